/** Of each call the last values that are in, at both ends; RefusedTest has the first ones that are out. */
public final class BoundsTest {
  private static final Due due = new Due("BoundsTest");
  private static final int ALL = (1 << 24) - 1;

  public static void main(String[] args) {
    moon();
    newTenants();
    tenants();
    tape();
    nights();
    loose();
    thoughts();
    sheets();
    moves();
    waiting();
    counts();
    due.end();
  }

  private static void moon() {
    MoonRooms x = new MoonRooms();
    Due.text(x, 1, "10*r+c+1");
    x.tenant(0);
    x.lease(0, 1 | 1 << 23);
    x.purse(0, 100);
    x.nights(8);
    due.is("ofCell(0, 0)", x.ofCell(0, 0), 1);
    due.is("ofCell(23, 0)", x.ofCell(23, 0), 1);
    due.is("ofCell(0, 1)", x.ofCell(0, 1), 1);
    due.is("ofCell(23, 1)", x.ofCell(23, 1), 1);
    due.is("ofCell(0, 2), row 0 and column 0", x.ofCell(0, 2), 1);
    due.is("ofCell(7, 2), row 0 and column 7", x.ofCell(7, 2), 8);
    due.is("ofCell(8, 2), row 1 and column 0", x.ofCell(8, 2), 11);
    due.is("ofCell(23, 2), row 2 and column 7", x.ofCell(23, 2), 28);
    due.is("ofCell(0, 3)", x.ofCell(0, 3), 1);
    due.is("ofCell(23, 3)", x.ofCell(23, 3), 1);
    due.is("ofCell(22, 3), held by none", x.ofCell(22, 3), 0);
    due.is("lit(0)", x.lit(0), 0);
    due.is("lit(1)", x.lit(1), 0x808080);
    due.is("lit(7)", x.lit(7), 0xFEFEFE);
    due.is("lit(8)", x.lit(8), ALL);
    due.is("lit(9)", x.lit(9), 0x7F7F7F);
    due.is("lit(15)", x.lit(15), 0x010101);
    due.is("weather(0)", x.weather(0), 0);
    due.is("weather(9)", x.weather(9), 0);
    due.is("weather(1)", x.weather(1), 9);
    due.is("WEATHER", x.count(3), 1);
  }

  private static void newTenants() {
    MoonRooms x = new MoonRooms();
    due.is("tenant(0), the first", x.tenant(0), 0);
    due.is("tenant(69)", x.tenant(69), 1);
    due.is("tenant(9)", x.tenant(9), 2);
    due.is("tenant(60)", x.tenant(60), 3);
    due.is("tenant(10)", x.tenant(10), 4);
    due.is("tenant(1), the sixth", x.tenant(1), 5);
    int[][] want = {{0, 0}, {6, 9}, {0, 9}, {6, 0}, {1, 0}, {0, 1}};
    for (int i = 0; i < 6; i++) {
      due.is("KIND of " + i, x.ofTenant(i, 0), want[i][0]);
      due.is("m of " + i, x.ofTenant(i, 1), want[i][1]);
      due.is("LEASE of " + i + ", none at first", x.ofTenant(i, 2), 0);
      due.is("PURSE of " + i + ", 0 at first", x.ofTenant(i, 3), 100000);
      due.is("EVICTED, " + i, x.ofTenant(i, 4), 0);
    }
  }

  private static void tenants() {
    MoonRooms x = Worlds.six();
    for (int who : new int[] {0, 5}) {
      String of = " of " + who;
      due.is("ofTenant, 0" + of, x.ofTenant(who, 0), who);
      due.is("ofTenant, 7" + of, x.ofTenant(who, 7), 0);
      due.is("become 69" + of, x.become(who, 69), who);
      due.is("become 0" + of, x.become(who, 0), 6);
      due.is("become 65" + of, x.become(who, 65), 0);
      due.is("as 0" + of, x.as(who, 0), 5);
      due.is("as 6" + of, x.as(who, 6), 5);
      due.is("lease, all" + of, x.lease(who, ALL), 0);
      due.is("lease, none" + of, x.lease(who, 0), ALL);
      due.is("lease, a cell" + of, x.lease(who, 1), 0);
      due.is("purse 9999" + of, x.purse(who, 9999), 100000);
      due.is("purse -9999" + of, x.purse(who, -9999), 109999);
      due.is("purse 0" + of, x.purse(who, 0), 90001);
    }
    x.purse(0, -9999);
    x.purse(5, -1);
    due.is("two are EVICTED", x.nights(4), 2);
    due.is("pardon(5)", x.pardon(5), 1);
    due.is("pardon(0)", x.pardon(0), 0);
    due.is("PURSE of 0", x.ofTenant(0, 3), 100000);
    due.is("PURSE of 5", x.ofTenant(5, 3), 100000);
  }

  private static void tape() {
    MoonRooms x = new MoonRooms();
    due.is("feed, 1", x.feed('1', 1), 1);
    due.is("feed, 8", x.feed(0x2B312B312B312B31L, 8), 9);
    x.text(0);
    // 49 bytes, then the last that there is room for
    for (int i = 0; i < 49; i++) {
      x.feed("+1".charAt((i + 1) % 2), 1);
    }
    due.is("byte 50", x.feed('0', 1), 50);
    due.is("all 50 are read", x.text(0), 1);
    due.is("what they give", x.law(0, 0, 0, 0), 24 + 10);
    for (int i = 0; i < 21; i++) {
      Due.feed(x, "1+");
    }
    due.is("bytes 43 to 50", x.feed(0x312B312B312B312BL, 8), 50);
    due.is("a sign too many", x.text(0), -10 - 42);
    MoonRooms y = new MoonRooms();
    for (int i = 0; i < 25; i++) {
      Due.feed(y, "1+");
    }
    due.is("50 bytes that end too early", y.text(1), -60);
    due.is("use 1, both ends of what it is asked", y.law(1, 0, 0, 0) + y.law(1, 2, 7, 6), 3);
  }

  private static void nights() {
    MoonRooms x = new MoonRooms();
    due.is("nights(1)", x.nights(1), 0);
    due.is("NIGHT", x.count(1), 1);
    due.is("nights(100)", x.nights(100), 0);
    due.is("NIGHT", x.count(1), 101);
    MoonRooms y = Worlds.at(9899);
    due.is("nights(100) to 9999", y.nights(100), 0);
    due.is("NIGHT", y.count(1), 9999);
    due.is("PHASE", y.count(2), 15);
    MoonRooms z = Worlds.at(9998);
    due.is("nights(1) to 9999", z.nights(1), 0);
    due.is("NIGHT", z.count(1), 9999);
  }

  private static void loose() {
    MoonRooms x = new MoonRooms();
    due.is("loose(1)", x.loose(1), 0);
    due.is("NIGHT", x.count(1), 1);
    due.is("loose(40)", x.loose(40), 0);
    due.is("NIGHT", x.count(1), 41);
    MoonRooms y = Worlds.at(9959);
    due.is("loose(40) to 9999", y.loose(40), 0);
    due.is("NIGHT", y.count(1), 9999);
    MoonRooms z = Worlds.at(9998);
    due.is("loose(1) to 9999", z.loose(1), 0);
    due.is("NIGHT", z.count(1), 9999);
  }

  private static void thoughts() {
    MoonRooms x = Worlds.six();
    for (int who : new int[] {0, 5}) {
      String of = " of " + who;
      x.become(who, 0);
      x.lease(who, who == 0 ? 1 : 1 << 23);
      x.purse(who, 7);
      due.is("then(0, .., 0)" + of, x.then(0, who, 0), 100007);
      due.is("then(0, .., 1)" + of, x.then(0, who, 1), who == 0 ? 1 : 1 << 23);
      due.is("then(100, .., 1)" + of, x.then(100, who, 1), who == 0 ? 1 : 1 << 23);
      due.is("often, 1" + of, x.often(who, 1), 0);
      due.is("often, 100" + of, x.often(who, 100), who == 0 ? 48 : 51);
      due.is("whole" + of, x.whole(who), who == 0 ? 8 : 1);
      due.is("stays" + of, x.stays(who), Due.NONE);
      due.is("beside" + of, x.beside(who), 0);
      x.lease(who, 0);
    }
    due.is("then(100, 0, 0)", x.then(100, 0, 0), 100007);
    due.is("least(0)", x.least(0), 0);
    due.is("least(1)", x.least(1), 0);
    due.is("falls(0, 0), this one", x.falls(0, 0), 0);
    due.is("falls(15, 6), the farthest", x.falls(15, 6), 111);
    due.is("falls(0, 6)", x.falls(0, 6), 48);
    due.is("falls(15, 0)", x.falls(15, 0), 63);
    Due.text(x, 1, "r=1&c=3|(r=2)*99");
    due.is("dear(0)", x.dear(0), 0);
    due.is("dear(99)", x.dear(99), 11);
    Due.text(x, 1, "(r=2&c=7)*99");
    due.is("dear(98)", x.dear(98), 0);
    due.is("dear(99) by 99", x.dear(99), 23);
    Due.text(x, 1, "98+(r*8+c=23)");
    due.is("dear(99), the last CELL", x.dear(99), 23);
    due.is("dear(98)", x.dear(98), 0);
    due.is("dear(97)", x.dear(97), Due.NONE);
  }

  private static void sheets() {
    for (int sheet : new int[] {0, 3}) {
      MoonRooms x = Worlds.six();
      due.is("sheet 8, 40", x.sheet(sheet, 8, 40), 1);
      due.is("put, the first", x.put(sheet, 0, 1), 1);
      due.is("put, the last", x.put(sheet, 39, 1), 1);
      due.is("all 40 are told", x.was(sheet), 0);
      x.put(sheet, 0, 0);
      due.is("but the last, none", x.was(sheet), 0);
      x.put(sheet, 39, 0);
      due.is("leases, to the last TENANT", x.leases(sheet), 6);
      due.is("judge", x.judge(sheet), 6);
      due.is("sheet 16, 0", x.sheet(sheet, 16, 0), 1);
      due.is("put in none", x.put(sheet, 0, 1), Due.BEYOND);
      due.is("leases by none", x.leases(sheet), 0);
      due.is("judge by none", x.judge(sheet), 0);
      due.is("was by none", x.was(sheet), ALL);
      due.is("sheet 32, 6", x.sheet(sheet, 32, 6), 1);
      due.is("rooms, -1", x.rooms(sheet, -1), 0);
      x.put(sheet, 0, ALL);
      x.put(sheet, 5, 1 << 23);
      due.is("rooms, -1", x.rooms(sheet, -1), 2);
      due.is("rooms, 0", x.rooms(sheet, 0), 0);
      due.is("rooms, 4", x.rooms(sheet, 4), -1);
      due.is("rooms, 5", x.rooms(sheet, 5), 23);
      due.is("leases, none and all CELLS", x.leases(sheet), 6);
      due.is("LEASE of 0", x.ofTenant(0, 2), ALL);
      due.is("LEASE of 5", x.ofTenant(5, 2), 1 << 23);
      due.is("judge, the first isn't", x.judge(sheet), 0);
      for (int n : new int[] {Integer.MIN_VALUE, -1, 41, Integer.MAX_VALUE}) {
        x.sheet(sheet, 8, 2);
        due.is("sheet 0, " + n + " doesn't matter", x.sheet(sheet, 0, n), 1);
        due.is("it is missing", x.judge(sheet), Due.NONE);
      }
    }
  }

  private static void moves() {
    MoonRooms x = new MoonRooms();
    x.tenant(0);
    x.purse(0, 5);
    for (int bits = 8; bits <= 32; bits *= 2) {
      String by = " by " + bits + " bits";
      x.sheet(0, bits, 40);
      x.sheet(3, bits, 1);
      x.put(0, 39, 5);
      due.is("the last number" + by, x.move(0, 39, 3, 0, 1), 1);
      due.is("came" + by, x.judge(3), -1);
      due.is("to the last place" + by, x.move(3, 0, 0, 39, 1), 1);
      due.is("none from behind the last" + by, x.move(0, 40, 3, 1, 0), 0);
      due.is("none to behind the last" + by, x.move(3, 1, 0, 40, 0), 0);
      due.is("all 40 onto themselves" + by, x.move(0, 0, 0, 0, 40), 40);
      due.is("39 one on" + by, x.move(0, 0, 0, 1, 39), 39);
      due.is("39 one back" + by, x.move(0, 1, 0, 0, 39), 39);
      x.sheet(3, bits, 0);
      due.is("none of none" + by, x.move(3, 0, 3, 0, 0), 0);
    }
  }

  private static void waiting() {
    MoonRooms x = new MoonRooms();
    due.is("the first that waits", x.tell(Integer.MIN_VALUE), 1);
    due.is("it isn't so", x.check(), 1);
    for (int i = 1; i <= 20; i++) {
      int p = (i - 1) % 16;
      due.is("number " + i, x.tell(i == 20 ? -1 : 3 * Math.min(p, 16 - p)), i);
    }
    due.is("only the last isn't so", x.check(), 20);
    due.is("none wait", x.count(8), 0);
    due.is("there is room again", x.tell(Integer.MAX_VALUE), 1);
  }

  private static void counts() {
    MoonRooms x = Worlds.full();
    due.is("count(0), TENANTS", x.count(0), 4);
    due.is("count(1), NIGHT", x.count(1), 5);
    due.is("count(2), PHASE", x.count(2), 5);
    due.is("count(3), WEATHER", x.count(3), 3);
    due.is("count(4), held", x.count(4), Integer.bitCount(0x0180C0 | 0x008001 | 0x800080));
    due.is("count(5), SEEN", x.count(5), 15);
    due.is("count(6), EVICTED", x.count(6), 1);
    due.is("count(7), bytes", x.count(7), 3);
    due.is("count(8), waiting", x.count(8), 2);
    due.is("count(9), BODIES", x.count(9), 8);
    due.is("count(10), z", x.count(10), 77);
    due.is("trace(0)", x.trace(0), 50);
    due.is("trace(7), the last", x.trace(7), 10);
    for (int k = 1; k <= 5; k++) {
      due.is("told(" + k + ")", x.told(k), 0);
    }
  }
}
