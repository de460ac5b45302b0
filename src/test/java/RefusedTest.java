import java.util.List;
import java.util.function.Supplier;
import java.util.function.ToIntFunction;

/** Each call that the document refuses: the first values that are out, at both ends, the ERRORS in their
    order, and that one who answers an ERROR changes nothing but what told() tells. */
public final class RefusedTest {
  private static final Due due = new Due("RefusedTest");
  private static final int MIN = Integer.MIN_VALUE;
  private static final int MAX = Integer.MAX_VALUE;
  private static final int NO_SET = 1 << 24;

  public static void main(String[] args) {
    moon();
    newTenants();
    tenants();
    evicted();
    texts();
    nights();
    thoughts();
    roomsAndWas();
    voices();
    sheets();
    moves();
    images();
    counts();
    due.end();
  }

  /** Two that are alike: one is asked, and has to be as the other one behind it, but for told(). */
  private static void refuses(String name, Supplier<MoonRooms> made, int error, ToIntFunction<MoonRooms> call) {
    MoonRooms asked = made.get();
    MoonRooms other = made.get();
    due.is(name, call.applyAsInt(asked), error);
    int[] want = Worlds.told(other);
    int[] got = Worlds.told(asked);
    for (int k = 1; k <= 5; k++) {
      due.is(name + ", told(" + k + ") behind it", got[k], want[k] + (Due.LOW - k == error ? 1 : 0));
    }
    List<Integer> all = Worlds.all(other);
    due.is(name + ", nothing else changes", Worlds.all(asked).equals(all) ? 1 : 0, 1);
  }

  private static void refuses(String name, int error, ToIntFunction<MoonRooms> call) {
    refuses(name, Worlds::full, error, call);
  }

  private static void beyond(String name, ToIntFunction<MoonRooms> call) {
    refuses(name, Due.BEYOND, call);
  }

  private static void moon() {
    beyond("ofCell(-1, 0)", x -> x.ofCell(-1, 0));
    beyond("ofCell(24, 0)", x -> x.ofCell(24, 0));
    beyond("ofCell(24, 3)", x -> x.ofCell(24, 3));
    beyond("ofCell(MIN, 1)", x -> x.ofCell(MIN, 1));
    beyond("ofCell(MAX, 2)", x -> x.ofCell(MAX, 2));
    beyond("ofCell(0, -1)", x -> x.ofCell(0, -1));
    beyond("ofCell(23, 4)", x -> x.ofCell(23, 4));
    beyond("lit(-1)", x -> x.lit(-1));
    beyond("lit(16)", x -> x.lit(16));
    beyond("lit(MIN)", x -> x.lit(MIN));
    beyond("lit(MAX)", x -> x.lit(MAX));
    beyond("weather(-1)", x -> x.weather(-1));
    beyond("weather(10)", x -> x.weather(10));
  }

  private static void newTenants() {
    beyond("tenant(-1)", x -> x.tenant(-1));
    beyond("tenant(70)", x -> x.tenant(70));
    beyond("tenant(MIN)", x -> x.tenant(MIN));
    beyond("tenant(MAX)", x -> x.tenant(MAX));
    refuses("a seventh tenant(0)", Worlds::six, Due.FULL, x -> x.tenant(0));
    refuses("a seventh tenant(69)", Worlds::six, Due.FULL, x -> x.tenant(69));
    refuses("a seventh tenant(70), BEYOND ahead of FULL", Worlds::six, Due.BEYOND, x -> x.tenant(70));
    refuses("a seventh tenant(-1), BEYOND ahead of FULL", Worlds::six, Due.BEYOND, x -> x.tenant(-1));
  }

  private static void tenants() {
    for (int who : new int[] {-1, 4, 6, MIN, MAX}) {
      String name = "(" + who + ", ..)";
      beyond("ofTenant" + name, x -> x.ofTenant(who, 0));
      beyond("become" + name, x -> x.become(who, 0));
      beyond("as" + name, x -> x.as(who, 0));
      beyond("lease" + name, x -> x.lease(who, 0));
      beyond("purse" + name, x -> x.purse(who, 0));
      beyond("pardon" + name, x -> x.pardon(who));
    }
    refuses("ofTenant of none there", MoonRooms::new, Due.BEYOND, x -> x.ofTenant(0, 0));
    refuses("ofTenant(6, 0) of six", Worlds::six, Due.BEYOND, x -> x.ofTenant(6, 0));
    beyond("ofTenant(0, -1)", x -> x.ofTenant(0, -1));
    beyond("ofTenant(0, 8)", x -> x.ofTenant(0, 8));
    beyond("become(0, -1)", x -> x.become(0, -1));
    beyond("become(0, 70)", x -> x.become(0, 70));
    beyond("become(0, MIN)", x -> x.become(0, MIN));
    beyond("as(0, -1)", x -> x.as(0, -1));
    beyond("as(0, 7)", x -> x.as(0, 7));
    int[][] notUnder = {{0, 1}, {0, 6}, {1, 4}, {1, 2}, {2, 1}, {2, 5}, {3, 1}, {3, 6}};
    for (int[] k : notUnder) {
      refuses("as(0, " + k[1] + ") of kind " + k[0], () -> {
        MoonRooms x = Worlds.full();
        x.become(0, 10 * k[0]);
        return x;
      }, Due.KIND, x -> x.as(0, k[1]));
    }
    beyond("lease(0, -1)", x -> x.lease(0, -1));
    beyond("lease(0, 2^24)", x -> x.lease(0, NO_SET));
    beyond("lease(0, MIN)", x -> x.lease(0, MIN));
    beyond("lease(0, MAX)", x -> x.lease(0, MAX));
    beyond("purse(0, -10000)", x -> x.purse(0, -10000));
    beyond("purse(0, 10000)", x -> x.purse(0, 10000));
    beyond("purse(0, MIN)", x -> x.purse(0, MIN));
    beyond("purse(0, MAX)", x -> x.purse(0, MAX));
  }

  /** Number 3 of the full world is EVICTED, the others aren't. */
  private static void evicted() {
    refuses("lease of an EVICTED", Due.STATE, x -> x.lease(3, 1));
    refuses("lease, none, of an EVICTED", Due.STATE, x -> x.lease(3, 0));
    beyond("no set of an EVICTED: BEYOND ahead of STATE", x -> x.lease(3, NO_SET));
    refuses("pardon of one who isn't", Due.STATE, x -> x.pardon(0));
    refuses("pardon of another who isn't", Due.STATE, x -> x.pardon(2));
    refuses("pardon a second time", () -> {
      MoonRooms x = Worlds.full();
      x.pardon(3);
      return x;
    }, Due.STATE, x -> x.pardon(3));
  }

  private static MoonRooms taped(int bytes) {
    MoonRooms x = Worlds.full();
    x.text(0);
    for (int i = 0; i < bytes; i++) {
      x.feed('1', 1);
    }
    return x;
  }

  private static void texts() {
    beyond("feed(1, 0)", x -> x.feed(1, 0));
    beyond("feed(1, -1)", x -> x.feed(1, -1));
    beyond("feed(1, 9)", x -> x.feed(1, 9));
    beyond("feed(1, MIN)", x -> x.feed(1, MIN));
    beyond("feed(1, MAX)", x -> x.feed(1, MAX));
    refuses("byte 51 by one", () -> taped(50), Due.FULL, x -> x.feed(1, 1));
    refuses("byte 51 of eight", () -> taped(43), Due.FULL, x -> x.feed(1, 8));
    refuses("byte 51 of two", () -> taped(49), Due.FULL, x -> x.feed(1, 2));
    refuses("nine more: BEYOND ahead of FULL", () -> taped(50), Due.BEYOND, x -> x.feed(1, 9));
    refuses("none more: BEYOND ahead of FULL", () -> taped(50), Due.BEYOND, x -> x.feed(1, 0));
    beyond("text(-1)", x -> x.text(-1));
    beyond("text(2)", x -> x.text(2));
    beyond("law(-1, 0, 0, 0)", x -> x.law(-1, 0, 0, 0));
    beyond("law(2, 0, 0, 0)", x -> x.law(2, 0, 0, 0));
  }

  private static void nights() {
    for (int n : new int[] {MIN, -1, 0, 101, MAX}) {
      beyond("nights(" + n + ")", x -> x.nights(n));
    }
    for (int n : new int[] {MIN, -1, 0, 41, MAX}) {
      beyond("loose(" + n + ")", x -> x.loose(n));
    }
    refuses("nights(1) from 9999", () -> Worlds.at(9999), Due.STATE, x -> x.nights(1));
    refuses("loose(1) from 9999", () -> Worlds.at(9999), Due.STATE, x -> x.loose(1));
    refuses("nights(100) from 9900", () -> Worlds.at(9900), Due.STATE, x -> x.nights(100));
    refuses("loose(40) from 9960", () -> Worlds.at(9960), Due.STATE, x -> x.loose(40));
    refuses("nights(101): BEYOND ahead of STATE", () -> Worlds.at(9999), Due.BEYOND, x -> x.nights(101));
    refuses("nights(0): BEYOND ahead of STATE", () -> Worlds.at(9999), Due.BEYOND, x -> x.nights(0));
    refuses("loose(41): BEYOND ahead of STATE", () -> Worlds.at(9999), Due.BEYOND, x -> x.loose(41));
    refuses("loose(0): BEYOND ahead of STATE", () -> Worlds.at(9999), Due.BEYOND, x -> x.loose(0));
  }

  private static void thoughts() {
    for (int who : new int[] {-1, 4, MIN, MAX}) {
      String name = "(" + who + ", ..)";
      beyond("then of " + name, x -> x.then(1, who, 0));
      beyond("often" + name, x -> x.often(who, 1));
      beyond("whole" + name, x -> x.whole(who));
      beyond("stays" + name, x -> x.stays(who));
      beyond("beside" + name, x -> x.beside(who));
    }
    beyond("then(-1, 0, 0)", x -> x.then(-1, 0, 0));
    beyond("then(101, 0, 0)", x -> x.then(101, 0, 0));
    beyond("then(0, 0, -1)", x -> x.then(0, 0, -1));
    beyond("then(0, 0, 2)", x -> x.then(0, 0, 2));
    beyond("often(0, 0)", x -> x.often(0, 0));
    beyond("often(0, -1)", x -> x.often(0, -1));
    beyond("often(0, 101)", x -> x.often(0, 101));
    refuses("whole of none", Due.STATE, x -> x.whole(3));
    refuses("whole not by 100", () -> {
      MoonRooms x = Worlds.full();
      x.weather(8);
      return x;
    }, Due.NONE, x -> x.whole(0));
    refuses("stays of an EVICTED", Due.STATE, x -> x.stays(3));
    refuses("stays by 100", Worlds::six, Due.NONE, x -> x.stays(0));
    beyond("least(-1)", x -> x.least(-1));
    beyond("least(2)", x -> x.least(2));
    beyond("falls(-1, 0)", x -> x.falls(-1, 0));
    beyond("falls(16, 0)", x -> x.falls(16, 0));
    beyond("falls(0, -1)", x -> x.falls(0, -1));
    beyond("falls(0, 7)", x -> x.falls(0, 7));
    beyond("dear(-1)", x -> x.dear(-1));
    beyond("dear(100)", x -> x.dear(100));
    refuses("dear: none such", Due.NONE, x -> x.dear(0));
    refuses("dear: all held", () -> {
      MoonRooms x = Worlds.full();
      x.lease(0, NO_SET - 1);
      return x;
    }, Due.NONE, x -> x.dear(99));
  }

  private static MoonRooms wishing(int i, int v) {
    MoonRooms x = Worlds.full();
    x.put(2, i, v);
    return x;
  }

  private static void roomsAndWas() {
    for (int sheet : new int[] {-1, 4, MIN, MAX}) {
      beyond("rooms(" + sheet + ", -1)", x -> x.rooms(sheet, -1));
      beyond("was(" + sheet + ")", x -> x.was(sheet));
    }
    beyond("rooms(2, -2)", x -> x.rooms(2, -2));
    beyond("rooms(2, 4)", x -> x.rooms(2, 4));
    beyond("rooms(3, 4): BEYOND ahead of NONE", x -> x.rooms(3, 4));
    beyond("rooms(0, -2): BEYOND ahead of NONE", x -> x.rooms(0, -2));
    refuses("rooms by a missing SHEET", Due.NONE, x -> x.rooms(3, -1));
    refuses("rooms by one number too few", Due.NONE, x -> x.rooms(0, -1));
    refuses("rooms by one number too many", () -> {
      MoonRooms x = Worlds.full();
      Due.sheet(x, 2, 32, 3, 3, 3, 3, 3);
      return x;
    }, Due.NONE, x -> x.rooms(2, -1));
    refuses("rooms, -1 the first", () -> wishing(0, -1), Due.NONE, x -> x.rooms(2, -1));
    refuses("rooms, 2^24 the first", () -> wishing(0, NO_SET), Due.NONE, x -> x.rooms(2, 3));
    refuses("rooms, -1 the last", () -> wishing(3, -1), Due.NONE, x -> x.rooms(2, 0));
    refuses("rooms, 2^24 the last", () -> wishing(3, NO_SET), Due.NONE, x -> x.rooms(2, 0));
    refuses("was by a missing SHEET", Due.NONE, x -> x.was(3));
    refuses("was by a 2, the last", () -> {
      MoonRooms x = Worlds.full();
      x.put(0, 2, 2);
      return x;
    }, Due.NONE, x -> x.was(0));
    refuses("was by a -1, the first", () -> {
      MoonRooms x = Worlds.full();
      x.put(0, 0, -1);
      return x;
    }, Due.NONE, x -> x.was(0));
  }

  private static void voices() {
    for (int who : new int[] {-1, 4, MIN, MAX}) {
      beyond("voice(" + who + ", 0, 0)", x -> x.voice(who, 0, 0));
    }
    for (int act : new int[] {-1, 4, MIN, MAX}) {
      beyond("voice(0, " + act + ", 0)", x -> x.voice(0, act, 0));
    }
    // the sharer's tells() of the full world goes through 8 bodies
    for (int i : new int[] {-1, 8, 40, MIN, MAX}) {
      refuses("trace(" + i + ")", Due.NONE, x -> x.trace(i));
    }
    refuses("trace(0) ahead of any voice", MoonRooms::new, Due.NONE, x -> x.trace(0));
  }

  private static void sheets() {
    for (int sheet : new int[] {-1, 4, MIN, MAX}) {
      String name = "(" + sheet + ", ..)";
      beyond("sheet" + name, x -> x.sheet(sheet, 8, 1));
      beyond("sheet" + name + " to be missing", x -> x.sheet(sheet, 0, 1));
      beyond("sheet" + name + ", BEYOND ahead of STATE", x -> x.sheet(sheet, 8, -1));
      beyond("put" + name, x -> x.put(sheet, 0, 0));
      beyond("leases" + name, x -> x.leases(sheet));
      beyond("judge" + name, x -> x.judge(sheet));
    }
    for (int bits : new int[] {-8, -1, 1, 7, 9, 15, 17, 24, 31, 33, 64, MIN, MAX}) {
      beyond("sheet(0, " + bits + ", 3)", x -> x.sheet(0, bits, 3));
      beyond("sheet(0, " + bits + ", -1), BEYOND ahead of STATE", x -> x.sheet(0, bits, -1));
    }
    for (int bits = 8; bits <= 32; bits *= 2) {
      int b = bits;
      refuses("sheet(0, " + b + ", -1)", Due.STATE, x -> x.sheet(0, b, -1));
      refuses("sheet(3, " + b + ", MIN)", Due.STATE, x -> x.sheet(3, b, MIN));
      beyond("sheet(0, " + b + ", 41)", x -> x.sheet(0, b, 41));
      beyond("sheet(3, " + b + ", MAX)", x -> x.sheet(3, b, MAX));
    }
    refuses("put in a missing SHEET", Due.NONE, x -> x.put(3, 0, 1));
    refuses("put(3, -1, 1): NONE ahead of BEYOND", Due.NONE, x -> x.put(3, -1, 1));
    refuses("put(3, 40, 1): NONE ahead of BEYOND", Due.NONE, x -> x.put(3, 40, 1));
    beyond("put(0, -1, 9)", x -> x.put(0, -1, 9));
    beyond("put(0, 3, 9)", x -> x.put(0, 3, 9));
    beyond("put(2, 4, 9)", x -> x.put(2, 4, 9));
    beyond("put(2, MIN, 9)", x -> x.put(2, MIN, 9));
    beyond("put(2, MAX, 9)", x -> x.put(2, MAX, 9));
    refuses("put in a SHEET of no numbers", () -> {
      MoonRooms x = Worlds.full();
      x.sheet(3, 8, 0);
      return x;
    }, Due.BEYOND, x -> x.put(3, 0, 9));
    refuses("leases by a missing SHEET", Due.NONE, x -> x.leases(3));
    refuses("judge by a missing SHEET", Due.NONE, x -> x.judge(3));
  }

  private static MoonRooms twoWide() {
    MoonRooms x = Worlds.full();
    Due.sheet(x, 1, 32, 9, 8, 7);
    return x;
  }

  /** SHEET 1 has 3 numbers then, SHEET 2 has 4, of the same bits. */
  private static void movesRefused(String name, ToIntFunction<MoonRooms> call) {
    refuses(name, RefusedTest::twoWide, Due.BEYOND, call);
  }

  private static void moves() {
    beyond("move from -1", x -> x.move(-1, 0, 0, 0, 1));
    beyond("move from 4", x -> x.move(4, 0, 0, 0, 1));
    beyond("move to -1", x -> x.move(0, 0, -1, 0, 1));
    beyond("move to 4", x -> x.move(0, 0, 4, 0, 1));
    beyond("move from 3 to 4: BEYOND ahead of NONE", x -> x.move(3, 0, 4, 0, 1));
    beyond("move from 4 to 3: BEYOND ahead of NONE", x -> x.move(4, 0, 3, 0, 1));
    refuses("move from a missing one", Due.NONE, x -> x.move(3, 0, 0, 0, 0));
    refuses("move to a missing one", Due.NONE, x -> x.move(0, 0, 3, 0, 0));
    refuses("move in a missing one", Due.NONE, x -> x.move(3, 0, 3, 0, 0));
    refuses("move from a missing one, NONE ahead of BEYOND", Due.NONE, x -> x.move(3, -1, 0, -1, -1));
    refuses("move of 8 to 16 bits", Due.KIND, x -> x.move(0, 0, 1, 0, 1));
    refuses("move of 32 to 16 bits", Due.KIND, x -> x.move(2, 0, 1, 0, 0));
    refuses("move of 8 to 32 bits, KIND ahead of BEYOND", Due.KIND, x -> x.move(0, 9, 2, 9, -1));
    movesRefused("n below 0", x -> x.move(2, 0, 1, 0, -1));
    movesRefused("n MIN", x -> x.move(2, 0, 1, 0, MIN));
    movesRefused("i below 0", x -> x.move(2, -1, 1, 0, 1));
    movesRefused("i below 0 with no numbers", x -> x.move(2, -1, 1, 0, 0));
    movesRefused("j below 0", x -> x.move(2, 0, 1, -1, 1));
    movesRefused("j below 0 with no numbers", x -> x.move(2, 0, 1, -1, 0));
    movesRefused("one behind the last, here", x -> x.move(1, 3, 2, 0, 1));
    movesRefused("none two behind the last, here", x -> x.move(1, 4, 2, 0, 0));
    movesRefused("one too many here", x -> x.move(1, 0, 2, 0, 4));
    movesRefused("one behind the last, there", x -> x.move(2, 0, 1, 3, 1));
    movesRefused("none two behind the last, there", x -> x.move(2, 0, 1, 4, 0));
    movesRefused("one too many there", x -> x.move(2, 0, 1, 0, 4));
    movesRefused("one too many in itself", x -> x.move(2, 0, 2, 1, 4));
    movesRefused("a sum that wraps, of n", x -> x.move(2, 1, 1, 1, MAX));
    movesRefused("a sum that wraps, of i", x -> x.move(2, MAX, 1, 0, 1));
    movesRefused("a sum that wraps, of j", x -> x.move(2, 0, 1, MAX, 1));
  }

  private static void images() {
    refuses("restore ahead of any image", MoonRooms::new, Due.NONE, x -> x.restore());
    refuses("restore of six ahead of any image", Worlds::six, Due.NONE, x -> x.restore());
    refuses("a number 21 that waits", () -> {
      MoonRooms x = Worlds.full();
      for (int i = 2; i < 20; i++) {
        x.tell(i);
      }
      return x;
    }, Due.FULL, x -> x.tell(5));
  }

  private static void counts() {
    for (int what : new int[] {-1, 11, MIN, MAX}) {
      beyond("count(" + what + ")", x -> x.count(what));
    }
    for (int k : new int[] {-1, 0, 6, MIN, MAX}) {
      beyond("told(" + k + ")", x -> x.told(k));
    }
  }
}
