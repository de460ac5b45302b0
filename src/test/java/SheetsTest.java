/** Promises 28 to 41: draws, voices, sheets, images, what is told. */
public final class SheetsTest {
  private static final Due due = new Due("SheetsTest");

  public static void main(String[] args) {
    seed();
    voices();
    voicesGoRound();
    traces();
    sheets();
    lowestBits();
    sheetsAnew();
    move();
    movesInItself();
    leases();
    leasesUpTo();
    judge();
    images();
    imageOfFirst();
    imageInPlace();
    check();
    checkEdges();
    counts();
    told();
    toldOfAll();
    due.end();
  }

  private static void seed() {
    MoonRooms x = new MoonRooms();
    due.is("seed", x.seed(Due.BEYOND), 1);
    due.is("any number", x.seed(-7), Due.BEYOND);
    due.is("no error", x.told(1), 0);
    due.is("z", x.count(10), -7);
    due.is("seed", x.seed(Integer.MIN_VALUE), -7);
    due.is("seed", x.seed(Integer.MAX_VALUE), Integer.MIN_VALUE);
    due.is("seed", x.seed(0), Integer.MAX_VALUE);
    due.is("seed", x.seed(Due.LOW), 0);
    due.is("no z is an ERROR", x.count(10), Due.LOW);
    due.is("z as BEYOND", x.seed(Due.BEYOND), Due.LOW);
    due.is("count(10), any number", x.count(10), Due.BEYOND);
    due.is("told", x.told(1), 0);
  }

  private static void voice(int km, int act, int x, int want, int... bodies) {
    MoonRooms rooms = new MoonRooms();
    rooms.tenant(0);
    rooms.tenant(0);
    rooms.tenant(km);
    String name = "voice of " + km + " by " + act;
    due.is(name, rooms.voice(2, act, x), want);
    for (int i = 0; i < bodies.length; i++) {
      due.is(name + ", body " + i, rooms.trace(i), bodies[i]);
    }
    due.is(name + ", how many bodies", rooms.count(9), bodies.length);
    due.is(name + ", behind the last", rooms.trace(bodies.length), Due.NONE);
    due.is(name + ", no act", rooms.voice(2, 4, x), Due.BEYOND);
    due.is(name + ", no act", rooms.voice(2, -1, x), Due.BEYOND);
    due.is(name + ", no one", rooms.voice(3, 0, x), Due.BEYOND);
    due.is(name + ", the trace stays", rooms.count(9), bodies.length);
    due.is("trace(-1)", rooms.trace(-1), Due.NONE);
  }

  private static void voices() {
    // the number is 2, m 5, x 10: looks 12, pays 24, holds 5
    voice(5, 0, 10, 12, 10);
    voice(5, 1, 10, 24, 11, 10);
    voice(5, 2, 10, 5, 12);
    voice(5, 3, 10, 24 ^ 5, 13, 11, 10, 12);
    voice(15, 0, 10, 36, 20, 10);
    voice(15, 3, 10, 72 ^ 5, 13, 11, 20, 10, 12);
    voice(25, 2, 10, -5, 30, 12);
    voice(25, 3, 10, 24 ^ -5, 13, 11, 10, 30, 12);
    voice(35, 1, 10, 28, 40, 11, 10, 12);
    voice(35, 3, 10, 28 ^ 5, 13, 40, 11, 10, 12, 12);
    voice(45, 3, 10, (72 ^ 5) - 12, 50, 13, 11, 20, 10, 12, 20, 10);
    voice(55, 2, 10, -5 ^ 2, 60, 30, 12);
    voice(55, 3, 10, 24 - (24 ^ (-5 ^ 2)), 61, 11, 10, 13, 11, 10, 60, 30, 12);
    voice(65, 1, 10, 26 + 4, 70, 40, 11, 10, 12);
    voice(65, 3, 10, 30 ^ 5, 13, 70, 40, 11, 10, 12, 12);
    voice(65, 0, 10, 12, 10);
    // ints go round
    voice(5, 0, Integer.MAX_VALUE, Integer.MIN_VALUE + 1, 10);
    voice(5, 2, Integer.MIN_VALUE, Integer.MAX_VALUE - 4, 12);
    MoonRooms x = new MoonRooms();
    x.tenant(0);
    due.is("any number", x.voice(0, 0, Due.NONE), Due.NONE);
    due.is("no error", x.told(2), 0);
  }

  private static final int MIN = Integer.MIN_VALUE;
  private static final int MAX = Integer.MAX_VALUE;

  private static void voicesGoRound() {
    voice(9, 1, MAX, (MAX + 2) * 2, 11, 10);
    voice(9, 1, 1 << 30, MIN + 4, 11, 10);
    voice(9, 2, MIN + 8, MAX, 12);
    voice(19, 0, MAX, (MAX + 2) * 3, 20, 10);
    voice(29, 2, MIN + 9, MIN, 30, 12);
    voice(39, 1, 1 << 30, MIN + 4 + 8, 40, 11, 10, 12);
    voice(69, 1, MAX, (MIN + 2) * 2 + 8, 70, 40, 11, 10, 12);
    voice(59, 2, MIN + 9, MIN ^ 2, 60, 30, 12);
    voice(0, 0, 0, 2, 10);
    voice(0, 2, 0, 0, 12);
    voice(9, 2, 0, -9, 12);
    // KINDS that have no BODY of their own take the next one's above
    voice(15, 1, 10, 72, 11, 20, 10);
    voice(15, 2, 10, 5, 12);
    voice(25, 0, 10, 12, 10);
    voice(25, 1, 10, 24, 11, 10);
    voice(35, 0, 10, 12, 10);
    voice(35, 2, 10, 5, 12);
    voice(45, 0, 10, 36, 20, 10);
    voice(45, 1, 10, 72, 11, 20, 10);
    voice(45, 2, 10, 5, 12);
    voice(55, 0, 10, 12, 10);
    voice(55, 1, 10, 24, 11, 10);
    voice(65, 2, 10, 5, 12);
  }

  private static void traces() {
    MoonRooms x = new MoonRooms();
    x.tenant(53);
    x.tenant(60);
    due.is("none at first", x.count(9), 0);
    x.voice(0, 3, 5);
    due.is("the longest", x.count(9), 9);
    x.voice(1, 0, 5);
    due.is("the latest alone", x.count(9), 1);
    due.is("trace(0)", x.trace(0), 10);
    due.is("trace(1)", x.trace(1), Due.NONE);
    x.become(1, 20);
    x.nights(4);
    x.image();
    x.restore();
    due.is("it stays", x.trace(0), 10);
  }

  private static void lowestBits() {
    int[][] eights = {{127, 127}, {128, -128}, {255, -1}, {256, 0}, {-128, -128}, {-129, 127}, {-1, -1},
        {MIN, 0}, {MAX, -1}, {0x17F, 127}};
    int[][] sixteens = {{9999, 9999}, {-9999, -9999}, {65536, 0}, {65535, -1}, {65536 - 9999, -9999},
        {65536 + 9999, 9999}, {MIN, 0}, {MAX, -1}, {-65536 + 5, 5}};
    int[][] all = {{9999, 9999}, {-9999, -9999}, {-1, -1}, {0, 0}};
    for (int[] v : eights) {
      isPurse(8, v[0], v[1]);
    }
    for (int[] v : sixteens) {
      isPurse(16, v[0], v[1]);
    }
    for (int[] v : all) {
      isPurse(32, v[0], v[1]);
    }
    isLease(8, 127, 127);
    isLease(8, 128, -1);
    isLease(16, 32767, 32767);
    isLease(16, 32768, -1);
    isLease(16, 65535, -1);
    isLease(32, 65535, 65535);
    isLease(32, 0xFFFFFF, 0xFFFFFF);
    isLease(32, 0x1000000, -1);
    isLease(32, MIN, -1);
    isLease(32, MAX, -1);
  }

  private static void isPurse(int bits, int v, int want) {
    MoonRooms x = new MoonRooms();
    x.tenant(0);
    x.sheet(2, bits, 1);
    due.is("put(2, 0, " + v + ")", x.put(2, 0, v), 1);
    x.purse(0, want);
    due.is(v + " by " + bits + " bits is " + want, x.judge(2), -1);
    x.purse(0, want < 0 ? want + 1 : want - 1);
    due.is(v + " by " + bits + " bits is no other", x.judge(2), 0);
  }

  /** Whether a number of so many bits is a set of CELLS: -1 for none. */
  private static void isLease(int bits, int v, int want) {
    MoonRooms x = new MoonRooms();
    x.tenant(0);
    Due.sheet(x, 2, bits, v);
    due.is(v + " by " + bits + " bits as LEASE", x.leases(2), want < 0 ? 0 : 1);
    due.is("the LEASE", x.ofTenant(0, 2), Math.max(0, want));
  }

  private static void sheetsAnew() {
    MoonRooms x = new MoonRooms();
    for (int sheet = 0; sheet < 4; sheet++) {
      due.is("missing at first, " + sheet, x.was(sheet), Due.NONE);
    }
    Due.sheet(x, 1, 8, 1, 1, 1);
    due.is("the others are missing", x.was(0) + 0L + x.was(2), 2L * Due.NONE);
    x.sheet(1, 8, 3);
    due.is("all 0 again", x.was(1), 0x3F3F3F);
    x.put(1, 0, 1);
    due.is("refused", x.sheet(1, 8, 41), Due.BEYOND);
    due.is("it stays", x.was(1), 0);
    due.is("shorter", x.sheet(1, 16, 1), 1);
    due.is("all 0", x.was(1), 0xFFFFFF);
    due.is("longer", x.sheet(1, 16, 9), 1);
    due.is("all 0, what stood there once, too", x.was(1), 0);
    due.is("its last", x.put(1, 8, 1), 1);
    due.is("but the last, none", x.was(1), 0xFFFFFF & ~x.lit(7) & x.lit(8));
    due.is("missing", x.sheet(1, 0, 0), 1);
    due.is("put", x.put(1, 0, 1), Due.NONE);
    due.is("of other bits", x.sheet(1, 32, 2), 1);
    due.is("all 0", x.was(1), 0xFFFFFF & ~x.lit(1));
  }

  private static void movesInItself() {
    for (int bits = 8; bits <= 32; bits *= 2) {
      MoonRooms x = new MoonRooms();
      int[] purses = {1, 1, 2, 3, 5, 6};
      for (int i = 0; i < 6; i++) {
        x.tenant(0);
        x.purse(i, purses[i]);
      }
      Due.sheet(x, 0, bits, 1, 2, 3, 4, 5, 6);
      due.is("three one on", x.move(0, 0, 0, 1, 3), 3);
      due.is("as they all were, by " + bits, x.judge(0), -1);
      int[] back = {2, 3, 4, 4, 5, 6};
      for (int i = 0; i < 6; i++) {
        x.purse(i, back[i]);
      }
      Due.sheet(x, 0, bits, 1, 2, 3, 4, 5, 6);
      due.is("three one back", x.move(0, 1, 0, 0, 3), 3);
      due.is("as they all were, by " + bits, x.judge(0), -1);
      x.sheet(3, bits, 6);
      due.is("none", x.move(3, 0, 0, 0, 0), 0);
      due.is("all stays", x.judge(0), -1);
      due.is("two, from the third on, to the fifth", x.move(0, 2, 3, 4, 2), 2);
      due.is("the one they come from stays", x.judge(0), -1);
      int[] there = {0, 0, 0, 0, 4, 4};
      for (int i = 0; i < 6; i++) {
        x.purse(i, there[i]);
      }
      due.is("they came", x.judge(3), -1);
    }
  }

  private static void leasesUpTo() {
    MoonRooms x = Worlds.six();
    Due.sheet(x, 0, 32, 1, 2, 4, 8, 16, 32, 64);
    due.is("seven for six TENANTS", x.leases(0), 6);
    due.is("the last has its own", x.ofTenant(5, 2), 32);
    Due.sheet(x, 0, 32, -1, 3);
    due.is("no set, the first", x.leases(0), 0);
    due.is("nothing changes", x.ofTenant(0, 2), 1);
    due.is("nothing changes behind it", x.ofTenant(1, 2), 2);
    Due.sheet(x, 0, 32, 0, 3);
    due.is("none is a set", x.leases(0), 2);
    due.is("none", x.ofTenant(0, 2), 0);
    due.is("two CELLS", x.ofTenant(1, 2), 3);
    due.is("those behind stay", x.ofTenant(2, 2), 4);
    x.purse(0, -1);
    x.purse(1, 100);
    x.nights(4);
    Due.sheet(x, 0, 32, 7, 7);
    due.is("up to one EVICTED, the first", x.leases(0), 0);
    due.is("it stays none", x.ofTenant(0, 2), 0);
    due.is("those behind stay", x.ofTenant(1, 2), 3);
    due.is("no ERROR", x.told(1) + x.told(2) + x.told(3), 0);
    MoonRooms y = new MoonRooms();
    y.sheet(0, 8, 40);
    due.is("nobody there", y.leases(0), 0);
  }

  private static void sheets() {
    MoonRooms x = new MoonRooms();
    due.is("sheet(4, 8, 1)", x.sheet(4, 8, 1), Due.BEYOND);
    due.is("sheet(-1, 8, 1)", x.sheet(-1, 8, 1), Due.BEYOND);
    due.is("sheet(0, 9, 1)", x.sheet(0, 9, 1), Due.BEYOND);
    due.is("sheet(0, 9, -1)", x.sheet(0, 9, -1), Due.BEYOND);
    due.is("sheet(0, 8, -1)", x.sheet(0, 8, -1), Due.STATE);
    due.is("sheet(0, 8, 41)", x.sheet(0, 8, 41), Due.BEYOND);
    due.is("put in a missing one", x.put(0, 0, 1), Due.NONE);
    due.is("put in no sheet", x.put(4, 0, 1), Due.BEYOND);
    due.is("sheet(0, 8, 40)", x.sheet(0, 8, 40), 1);
    due.is("put(0, 39, 1)", x.put(0, 39, 1), 1);
    due.is("put(0, 40, 1)", x.put(0, 40, 1), Due.BEYOND);
    due.is("put(0, -1, 1)", x.put(0, -1, 1), Due.BEYOND);
    due.is("sheet(0, 0, -5)", x.sheet(0, 0, -5), 1);
    due.is("put in a missing one", x.put(0, 0, 1), Due.NONE);
    x.tenant(0);
    x.sheet(0, 8, 1);
    x.put(0, 0, 0x1FE);
    x.purse(0, -2);
    due.is("the lowest 8 bits", x.judge(0), -1);
    x.sheet(0, 16, 1);
    x.put(0, 0, 0x7FFFE);
    due.is("the lowest 16 bits", x.judge(0), -1);
    x.sheet(0, 32, 1);
    x.put(0, 0, 0x7FFFE);
    due.is("all 32 bits", x.judge(0), 0);
    x.purse(0, 0);
    x.sheet(0, 32, 1);
    due.is("all 0 again", x.judge(0), -1);
  }

  private static void move() {
    MoonRooms x = new MoonRooms();
    for (int i = 0; i < 5; i++) {
      x.tenant(0);
      x.purse(i, i == 0 ? 1 : i);
    }
    Due.sheet(x, 0, 16, 1, 2, 3, 4, 5);
    due.is("move up in itself", x.move(0, 0, 0, 1, 4), 4);
    due.is("as they all were", x.judge(0), -1);
    Due.sheet(x, 0, 16, 7, 1, 1, 2, 3, 4);
    Due.sheet(x, 1, 16, 0, 0, 0, 0, 0);
    due.is("to another", x.move(0, 1, 1, 0, 5), 5);
    due.is("there", x.judge(1), -1);
    due.is("move down in itself", x.move(0, 1, 0, 0, 5), 5);
    x.sheet(2, 8, 3);
    due.is("no sheet", x.move(4, 0, 0, 0, 0), Due.BEYOND);
    due.is("no other sheet", x.move(3, 0, 4, 0, 0), Due.BEYOND);
    due.is("a missing one", x.move(3, 0, 0, 0, -1), Due.NONE);
    due.is("another missing", x.move(0, 0, 3, 0, 0), Due.NONE);
    due.is("of unlike bits", x.move(0, 0, 2, 0, -1), Due.KIND);
    due.is("n below 0", x.move(0, 0, 1, 0, -1), Due.BEYOND);
    due.is("i below 0", x.move(0, -1, 1, 0, 1), Due.BEYOND);
    due.is("j below 0", x.move(0, 0, 1, -1, 1), Due.BEYOND);
    due.is("too far there", x.move(0, 0, 1, 1, 5), Due.BEYOND);
    due.is("too far here", x.move(0, 2, 1, 0, 5), Due.BEYOND);
    due.is("so far that it wraps", x.move(0, 1, 1, 1, Integer.MAX_VALUE), Due.BEYOND);
    due.is("so far that it wraps", x.move(0, Integer.MAX_VALUE, 1, 0, 2), Due.BEYOND);
    due.is("nothing, at the end", x.move(0, 6, 1, 5, 0), 0);
    due.is("nothing, behind the end", x.move(0, 7, 1, 5, 0), Due.BEYOND);
    due.is("all stays", x.judge(1), -1);
  }

  private static void leases() {
    MoonRooms x = new MoonRooms();
    x.tenant(0);
    x.tenant(0);
    x.tenant(0);
    due.is("leases(4)", x.leases(4), Due.BEYOND);
    due.is("leases(0)", x.leases(0), Due.NONE);
    Due.sheet(x, 0, 32, 5, 16777215);
    due.is("two", x.leases(0), 2);
    due.is("lease of 0", x.ofTenant(0, 2), 5);
    due.is("lease of 1", x.ofTenant(1, 2), 16777215);
    Due.sheet(x, 0, 32, 1, 16777216, 3);
    due.is("up to no set", x.leases(0), 1);
    due.is("lease of 0", x.ofTenant(0, 2), 1);
    due.is("lease of 2", x.ofTenant(2, 2), 0);
    Due.sheet(x, 0, 8, 1, 127, 3, 4);
    due.is("up to no tenant", x.leases(0), 3);
    Due.sheet(x, 0, 8, 255);
    due.is("eight bits below 0", x.leases(0), 0);
    x.purse(0, 0);
    x.purse(1, -1);
    x.lease(0, 0);
    x.lease(2, 0);
    due.is("nights(4)", x.nights(4), 1);
    Due.sheet(x, 0, 8, 1, 2, 3);
    due.is("up to an evicted one", x.leases(0), 1);
    due.is("lease of 2", x.ofTenant(2, 2), 0);
    due.is("no errors", x.told(3), 0);
  }

  private static void judge() {
    MoonRooms x = new MoonRooms();
    due.is("judge(4)", x.judge(4), Due.BEYOND);
    due.is("judge(0)", x.judge(0), Due.NONE);
    x.sheet(0, 8, 0);
    due.is("none of none", x.judge(0), -1);
    x.tenant(0);
    due.is("one lacks", x.judge(0), 0);
    x.tenant(0);
    x.purse(1, -9999);
    Due.sheet(x, 0, 16, 0, -9999);
    due.is("all are", x.judge(0), -1);
    Due.sheet(x, 0, 16, 0, -9998);
    due.is("the second isn't", x.judge(0), 1);
    Due.sheet(x, 0, 16, 0, -9999, 0);
    due.is("one too many", x.judge(0), 2);
    Due.sheet(x, 0, 16, 1, -9999, 0);
    due.is("the first ahead of it", x.judge(0), 0);
  }

  private static void images() {
    MoonRooms x = new MoonRooms();
    x.tenant(12);
    x.tenant(23);
    x.lease(0, 3);
    x.purse(0, 50);
    x.weather(4);
    x.seed(99);
    Due.text(x, 0, "w=4&n");
    Due.text(x, 1, "c");
    Due.feed(x, "n+1");
    x.tell(0);
    x.nights(2);
    due.is("image", x.image(), 1);
    x.loose(5);
    x.become(0, 44);
    x.tenant(30);
    x.lease(2, 4);
    x.purse(2, -3);
    due.is("text", x.text(0), 1);
    Due.text(x, 1, "90");
    x.check();
    x.sheet(0, 8, 3);
    x.voice(0, 0, 1);
    x.count(-1);
    due.is("restore", x.restore(), 2);
    due.is("tenants", x.count(0), 2);
    due.is("night", x.count(1), 2);
    due.is("weather", x.count(3), 4);
    due.is("tape", x.count(7), 3);
    due.is("waiting", x.count(8), 1);
    due.is("z", x.count(10), 99);
    due.is("kind", x.ofTenant(0, 0), 1);
    due.is("m", x.ofTenant(0, 1), 2);
    due.is("lease", x.ofTenant(0, 2), 3);
    due.is("purse", x.ofTenant(0, 3), 100050);
    due.is("clouds", x.law(0, 3, 0, 4), 1);
    due.is("clouds", x.law(0, 3, 0, 3), 0);
    due.is("rent", x.law(1, 0, 6, 0), 6);
    due.is("the trace isn't kept", x.count(9), 2);
    due.is("the sheets aren't kept", x.put(0, 2, 1), 1);
    due.is("what is told isn't kept", x.told(1), 1);
    due.is("a new one is as at first", x.tenant(0), 2);
    due.is("its lease", x.ofTenant(2, 2), 0);
    due.is("its purse", x.ofTenant(2, 3), 100000);
    due.is("image again", x.image(), 2);
    x.nights(1);
    due.is("restore", x.restore(), 2);
    due.is("tenants", x.count(0), 3);
    x.nights(3);
    due.is("the image stays", x.restore(), 2);
    x.purse(0, -1);
    due.is("how often isn't kept", x.image(), 3);
    x.nights(2);
    due.is("evicted", x.ofTenant(0, 4), 1);
    x.restore();
    due.is("evicted no more", x.ofTenant(0, 4), 0);
  }

  private static void imageOfFirst() {
    MoonRooms x = new MoonRooms();
    due.is("an image of all at first", x.image(), 1);
    x.tenant(33);
    x.lease(0, 5);
    x.weather(3);
    x.seed(4);
    Due.text(x, 0, "1");
    Due.text(x, 1, "77");
    Due.feed(x, "n");
    x.tell(9);
    x.nights(3);
    due.is("restore", x.restore(), 0);
    due.is("no TENANTS", x.count(0), 0);
    due.is("of whom none is found", x.ofTenant(0, 0), Due.BEYOND);
    due.is("NIGHT", x.count(1), 0);
    due.is("WEATHER", x.count(3), 0);
    due.is("no TEXT of clouds", x.law(0, 1, 1, 1), 0);
    due.is("no TEXT of rents", x.law(1, 0, 4, 0), 2);
    due.is("an empty tape", x.count(7), 0);
    due.is("none wait", x.count(8), 0);
    due.is("z", x.count(10), 1);
    x.tenant(0);
    x.purse(0, -1);
    due.is("one is EVICTED", x.nights(4), 1);
    due.is("restore", x.restore(), 0);
    for (int i = 0; i < 6; i++) {
      due.is("room for six", x.tenant(i), i);
      due.is("as at first", x.ofTenant(i, 2) + x.ofTenant(i, 3) + x.ofTenant(i, 4), 100000);
    }
  }

  private static void imageInPlace() {
    MoonRooms x = Worlds.six();
    x.nights(1);
    due.is("the first", x.image(), 1);
    x.nights(1);
    x.purse(5, -1);
    due.is("in place of one ahead", x.image(), 2);
    x.nights(98);
    due.is("one is EVICTED", x.count(6), 1);
    due.is("back to the second", x.restore(), 2);
    due.is("none is EVICTED", x.count(6), 0);
    due.is("PURSE", x.ofTenant(5, 3), 99999);
    due.is("it stays", x.restore(), 2);
    x.nights(2);
    due.is("evicted", x.ofTenant(5, 4), 1);
    due.is("a third", x.image(), 3);
    x.pardon(5);
    x.lease(5, 9);
    due.is("back to it", x.restore(), 4);
    due.is("evicted, as it has it", x.ofTenant(5, 4), 1);
    due.is("LEASE, as it has it", x.ofTenant(5, 2), 0);
    Due.text(x, 0, "p");
    Due.feed(x, "99");
    x.tell(1);
    x.image();
    x.text(1);
    Due.text(x, 0, "7+7");
    x.check();
    x.tell(4);
    x.tell(5);
    due.is("restore", x.restore(), 4);
    due.is("the tape is as it was", x.text(1), 1);
    due.is("what was on it", x.law(1, 0, 0, 0), 99);
    due.is("the TEXT is as it was", x.law(0, 1, 5, 1), 5);
    due.is("what waits is as it was", x.tell(2), 2);
    due.is("what waits is as it was", x.check(), 1);
    x.nights(1);
    due.is("a thought doesn't touch the image", x.then(100, 0, 0), 100000);
    due.is("restore", x.restore(), 4);
  }

  private static void checkEdges() {
    MoonRooms x = new MoonRooms();
    x.tell(1);
    x.tell(3);
    due.is("the first isn't", x.check(), 1);
    x.tell(0);
    due.is("this NIGHT the first", x.check(), 0);
    x.tell(0);
    x.tell(3);
    x.tell(6);
    x.tell(8);
    x.tell(11);
    due.is("the first of several that aren't", x.check(), 4);
    due.is("none wait, those behind it neither", x.count(8), 0);
    due.is("none that wait are all so", x.check(), 0);
    x.tell(256);
    due.is("no bits are cut", x.check(), 1);
    x.tell(-1);
    due.is("below 0", x.check(), 1);
    MoonRooms y = Worlds.at(9999);
    y.tell(3);
    y.tell(0);
    y.tell(3);
    y.tell(6);
    due.is("beyond 9999", y.check(), 0);
    Due.text(y, 0, "w");
    y.weather(1);
    y.tell(0);
    y.tell(0);
    y.tell(0);
    due.is("behind clouds", y.check(), 0);
  }

  private static void toldOfAll() {
    MoonRooms x = new MoonRooms();
    for (int i = 1; i <= 20; i++) {
      x.lit(16);
      x.restore();
      x.sheet(0, 8, -1);
      due.is("each is counted", x.told(1), i);
      due.is("each is counted", x.told(2), i);
      due.is("each is counted", x.told(3), i);
    }
    due.is("FULL", x.told(4), 0);
    due.is("KIND", x.told(5), 0);
    due.is("told(0)", x.told(0), Due.BEYOND);
    due.is("told(6)", x.told(6), Due.BEYOND);
    due.is("both are counted", x.told(1), 22);
    x.image();
    x.lit(16);
    x.restore();
    due.is("an image doesn't bring back what is told", x.told(1), 23);
    due.is("a FAULT", x.text(0), -10);
    due.is("is no ERROR", x.told(1) + x.told(2) + x.told(3) + x.told(4) + x.told(5), 23 + 20 + 20);
  }

  private static void check() {
    MoonRooms x = new MoonRooms();
    due.is("none wait", x.check(), 0);
    for (int i = 0; i < 20; i++) {
      int p = i % 16;
      due.is("tell", x.tell(3 * (p <= 8 ? p : 16 - p)), i + 1);
    }
    due.is("a 21st", x.tell(5), Due.FULL);
    due.is("waiting", x.count(8), 20);
    due.is("all so", x.check(), 0);
    due.is("none wait then", x.count(8), 0);
    x.tell(0);
    x.tell(4);
    x.tell(9);
    due.is("the second isn't", x.check(), 2);
    due.is("none wait then", x.count(8), 0);
    x.nights(2);
    x.tell(6);
    x.tell(9);
    due.is("from this night on", x.check(), 0);
    Due.text(x, 0, "n=3");
    x.tell(6);
    x.tell(0);
    x.tell(12);
    due.is("by clouds", x.check(), 0);
    due.is("tell any number", x.tell(Integer.MIN_VALUE), 1);
  }

  private static void counts() {
    MoonRooms x = new MoonRooms();
    x.tenant(0);
    x.tenant(0);
    x.lease(0, 7);
    x.lease(1, 14);
    x.purse(0, 10);
    x.purse(1, 10);
    x.nights(17);
    due.is("tenants", x.count(0), 2);
    due.is("night", x.count(1), 17);
    due.is("phase", x.count(2), 1);
    due.is("held", x.count(4), 4);
    due.is("seen", x.count(5), 3);
    due.is("evicted", x.count(6), 0);
    due.is("count(11)", x.count(11), Due.BEYOND);
    due.is("count(-1)", x.count(-1), Due.BEYOND);
  }

  private static void told() {
    MoonRooms x = new MoonRooms();
    x.lit(99);
    x.restore();
    x.trace(0);
    x.tenant(0);
    x.pardon(0);
    x.as(0, 1);
    x.as(0, 2);
    x.as(0, 3);
    for (int i = 0; i < 6; i++) {
      x.tenant(0);
    }
    due.is("beyond", x.told(1), 1);
    due.is("none", x.told(2), 2);
    due.is("state", x.told(3), 1);
    due.is("full", x.told(4), 1);
    due.is("kind", x.told(5), 3);
    due.is("told(0)", x.told(0), Due.BEYOND);
    due.is("told(6)", x.told(6), Due.BEYOND);
    due.is("told(-1)", x.told(-1), Due.BEYOND);
    due.is("counted, too", x.told(1), 4);
  }
}
