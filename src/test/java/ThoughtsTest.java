/** Promises 17 to 27: what would be. */
public final class ThoughtsTest {
  private static final Due due = new Due("ThoughtsTest");

  public static void main(String[] args) {
    then();
    thenChangesNothing();
    often();
    whole();
    stays();
    staysEdges();
    beyondTheLastNight();
    clash();
    clashOfKinds();
    leastOfSeveral();
    beside();
    besideEdges();
    rooms();
    roomsInOrder();
    falls();
    was();
    wasEdges();
    dear();
    due.end();
  }

  private static void then() {
    MoonRooms x = new MoonRooms();
    x.tenant(0);
    x.lease(0, 1);
    due.is("then(0, 0, 0)", x.then(0, 0, 0), 100000);
    due.is("then(3, 0, 1)", x.then(3, 0, 1), 1);
    due.is("then(4, 0, 1)", x.then(4, 0, 1), 0);
    due.is("then(100, 0, 0)", x.then(100, 0, 0), 99999);
    due.is("night", x.count(1), 0);
    due.is("lease", x.ofTenant(0, 2), 1);
    due.is("then(101, 0, 0)", x.then(101, 0, 0), Due.BEYOND);
    due.is("then(-1, 0, 0)", x.then(-1, 0, 0), Due.BEYOND);
    due.is("then(0, 1, 0)", x.then(0, 1, 0), Due.BEYOND);
    due.is("then(0, 0, 2)", x.then(0, 0, 2), Due.BEYOND);
    due.is("then(0, 0, -1)", x.then(0, 0, -1), Due.BEYOND);
  }

  private static void thenChangesNothing() {
    MoonRooms x = Worlds.full();
    MoonRooms y = Worlds.full();
    for (int n = 0; n <= 100; n += 20) {
      for (int i = 0; i < 4; i++) {
        x.then(n, i, 0);
        x.then(n, i, 1);
      }
    }
    for (int i = 0; i < 3; i++) {
      x.often(i, 100);
      x.whole(i);
      x.stays(i);
      x.beside(i);
    }
    x.clash();
    x.least(1);
    x.rooms(2, -1);
    x.rooms(2, 3);
    x.falls(3, 3);
    x.was(0);
    x.dear(99);
    due.is("all this is only thought", Worlds.all(x).equals(Worlds.all(y)) ? 1 : 0, 1);
    for (int n = 0; n <= 12; n++) {
      MoonRooms now = Worlds.full();
      MoonRooms then = Worlds.full();
      then.nights(n + 1);
      for (int i = 0; i < 4; i++) {
        due.is("PURSE of " + i + " behind " + (n + 1), now.then(n + 1, i, 0), then.ofTenant(i, 3));
        due.is("LEASE of " + i + " behind " + (n + 1), now.then(n + 1, i, 1), then.ofTenant(i, 2));
      }
    }
    MoonRooms z = new MoonRooms();
    z.tenant(50);
    z.lease(0, 1);
    due.is("WEATHER stays in thought", z.weather(7), 0);
    Due.text(z, 0, "w<7");
    z.become(0, 0);
    z.purse(0, 10);
    due.is("seen by the WEATHER as it is", z.then(9, 0, 0), 100010 - 2 + 5);
    z.weather(6);
    due.is("hidden by another", z.then(9, 0, 0), 100010 - 2);
  }

  private static void often() {
    MoonRooms x = new MoonRooms();
    x.tenant(0);
    due.is("of none", x.often(0, 100), 0);
    x.lease(0, 128);
    due.is("this one the first", x.often(0, 1), 0);
    due.is("often(0, 2)", x.often(0, 2), 1);
    due.is("often(0, 32)", x.often(0, 32), 16);
    x.become(0, 30);
    due.is("a banker's", x.often(0, 9), 4);
    Due.text(x, 0, "p=4");
    due.is("but for the clouds", x.often(0, 9), 3);
    due.is("often(0, 0)", x.often(0, 0), Due.BEYOND);
    due.is("often(0, 101)", x.often(0, 101), Due.BEYOND);
    due.is("often(1, 1)", x.often(1, 1), Due.BEYOND);
    x.become(0, 0);
    Due.text(x, 0, "0");
    due.is("as its lease is now, though evicted later", x.often(0, 8), 7);
    due.is("evicted", x.nights(4), 0);
    x.lease(0, 0xFFFFFF);
    due.is("how often it sees some", x.often(0, 100), 94);
    x.become(0, 20);
    due.is("a widower's", x.often(0, 100), 94);
    x.become(0, 59);
    due.is("a ghost's", x.often(0, 100), 0);
    x.become(0, 12);
    due.is("a poet's of 2, 5, 8, ..", x.often(0, 2), 1);
    due.is("a poet's, this one alone", x.often(0, 1), 0);
    due.is("a poet's of 5", x.often(0, 4), 1);
    due.is("a poet's of 5 and 8", x.often(0, 5), 2);
    x.become(0, 30);
    due.is("a banker's of this one", x.often(0, 1), 1);
    x.purse(0, -9999);
    due.is("evicted", x.nights(4), 1);
    due.is("its lease is none", x.often(0, 100), 0);
  }

  private static void whole() {
    MoonRooms x = new MoonRooms();
    x.tenant(50);
    due.is("of none", x.whole(0), Due.STATE);
    due.is("of no one", x.whole(1), Due.BEYOND);
    x.lease(0, 1 << 16);
    due.is("first column", x.whole(0), 8);
    x.lease(0, 1 << 23);
    due.is("last column", x.whole(0), 1);
    x.nights(1);
    due.is("at once", x.whole(0), 0);
    x.purse(0, 100);
    x.nights(1);
    due.is("at once, though SEEN in the NIGHT ahead, too", x.whole(0), 0);
    x.nights(6);
    due.is("at once, in the last", x.whole(0), 0);
    x.nights(1);
    due.is("SEEN in the NIGHT ahead alone", x.whole(0), 8);
    x.lease(0, 1 | 1 << 23);
    due.is("both in one NIGHT", x.whole(0), 15);
    x = new MoonRooms();
    x.tenant(50);
    x.lease(0, 1 << 23);
    x.nights(1);
    Due.text(x, 0, "n<101");
    due.is("by 100", x.whole(0), 100);
    Due.text(x, 0, "n<102");
    due.is("not by 100", x.whole(0), Due.NONE);
    Due.text(x, 0, "w");
    x.weather(1);
    due.is("never", x.whole(0), Due.NONE);
  }

  private static void stays() {
    MoonRooms x = new MoonRooms();
    x.tenant(0);
    due.is("stays(1)", x.stays(1), Due.BEYOND);
    due.is("owes nothing", x.stays(0), Due.NONE);
    x.lease(0, 1);
    due.is("to the first quarter", x.stays(0), 4);
    x.become(0, 50);
    x.purse(0, 24);
    due.is("behind 100", x.stays(0), 100);
    x.become(0, 0);
    x.purse(0, 0);
    x.nights(1);
    due.is("one less", x.stays(0), 3);
    x.become(0, 50);
    x.purse(0, 24);
    due.is("behind 99", x.stays(0), 99);
    x.purse(0, 25);
    due.is("behind 103", x.stays(0), Due.NONE);
    due.is("purse", x.ofTenant(0, 3), 100025);
    x.purse(0, -1);
    x.nights(3);
    due.is("evicted", x.stays(0), Due.STATE);
  }

  private static void staysEdges() {
    MoonRooms x = new MoonRooms();
    x.tenant(0);
    x.purse(0, -1);
    due.is("below 0, to the quarter", x.stays(0), 4);
    x.nights(3);
    due.is("the NIGHT ahead of the quarter", x.stays(0), 1);
    x.purse(0, 0);
    due.is("0 isn't below 0", x.stays(0), Due.NONE);
    x.tenant(50);
    x.lease(1, 1);
    x.purse(1, 24);
    due.is("behind 97, from the third", x.stays(1), 97);
    x.nights(1);
    x.purse(1, 24);
    due.is("behind 100, from a quarter", x.stays(1), 100);
    x.purse(1, 25);
    due.is("not by 100", x.stays(1), Due.NONE);
    MoonRooms y = new MoonRooms();
    Due.text(y, 1, "q*10");
    y.tenant(50);
    y.tenant(50);
    y.lease(0, 1);
    y.lease(1, 1);
    y.purse(0, 19);
    y.purse(1, 20);
    due.is("the first", y.stays(0), 4);
    due.is("the second pays less without it", y.stays(1), 12);
    due.is("nobody is evicted", y.count(6), 0);
    MoonRooms z = new MoonRooms();
    z.tenant(0);
    z.lease(0, 128);
    due.is("what it earns counts", z.stays(0), Due.NONE);
    Due.text(z, 0, "n>0");
    due.is("but for the clouds", z.stays(0), 4);
  }

  /** Thought goes on behind NIGHT 9999, its PHASE and rests as ever. */
  private static void beyondTheLastNight() {
    MoonRooms x = Worlds.at(9999);
    x.tenant(50);
    x.lease(0, 1 << 7);
    x.purse(0, 2);
    due.is("then, the next quarter", x.then(1, 0, 0), 100000);
    due.is("then, the one behind", x.then(5, 0, 1), 0);
    due.is("stays", x.stays(0), 5);
    due.is("whole", x.whole(0), 2);
    x.become(0, 0);
    due.is("often, to NIGHT 10001", x.often(0, 3), 1);
    for (int p = 0; p < 16; p++) {
      for (int d = 0; d < 7; d++) {
        int behind = 0;
        while ((9999 + behind) % 16 != p || (9999 + behind) % 7 != d) {
          behind++;
        }
        due.is("falls(" + p + ", " + d + ") from 9999", x.falls(p, d), behind);
      }
    }
    Due.sheet(x, 0, 8, 0, 0, 1);
    due.is("was", x.was(0), 0x808080);
    x.tell(3);
    x.tell(0);
    x.tell(3);
    due.is("check", x.check(), 0);
    Due.text(x, 0, "n<9999+3");
    due.is("NIGHT in the TEXT of thought", x.whole(0), 3);
    Due.text(x, 0, "n>9999");
    due.is("NIGHT in the TEXT of thought", x.whole(0), Due.NONE);
  }

  /** How many pairs, and who must give up least, of two of these KINDS that hold a CELL both. */
  private static void clashOfKinds() {
    for (int a = 0; a <= 6; a++) {
      for (int b = 0; b <= 6; b++) {
        MoonRooms x = new MoonRooms();
        x.tenant(10 * a + 1);
        x.tenant(10 * b + 2);
        x.lease(0, 0x100);
        x.lease(1, 0x301);
        int want = a == 4 && b == 4 ? 0 : 1;
        due.is(a + " and " + b + " clash", x.clash(), want);
        due.is(a + " and " + b + ", how many", x.least(0), want);
        due.is(a + " and " + b + ", the set", x.least(1), want);
        x.lease(1, 0x201);
        due.is(a + " and " + b + " of other CELLS", x.clash(), 0);
      }
    }
    MoonRooms x = Worlds.six();
    x.become(4, 0);
    for (int i = 0; i < 6; i++) {
      x.lease(i, 1 << 23);
    }
    due.is("all pairs of six", x.clash(), 15);
    due.is("all but one", x.least(0), 5);
    due.is("the least set", x.least(1), 31);
    for (int i = 0; i < 6; i++) {
      x.become(i, 40);
    }
    due.is("six SHARERS", x.clash(), 0);
    due.is("six SHARERS", x.least(1), 0);
    x.become(5, 10);
    due.is("five and a POET", x.clash(), 5);
    due.is("the POET", x.least(1), 32);
  }

  private static void leastOfSeveral() {
    MoonRooms x = new MoonRooms();
    for (int i = 0; i < 4; i++) {
      x.tenant(0);
    }
    // 0 and 3 clash, 1 and 2 clash: sets 3, 5, 10, 12 are as few
    x.lease(0, 1);
    x.lease(3, 1);
    x.lease(1, 2);
    x.lease(2, 2);
    due.is("two pairs", x.clash(), 2);
    due.is("how many", x.least(0), 2);
    due.is("the least of several", x.least(1), 3);
    // a chain 3 - 0 - 1 - 2: 0 and 1, 0 and 2, or 1 and 3
    x.lease(0, 1 | 4);
    x.lease(1, 2 | 4);
    due.is("a chain", x.clash(), 3);
    due.is("the least of several", x.least(1), 3);
    // 3 alone clashes with all: fewer, though a greater set
    x.lease(0, 1);
    x.lease(1, 2);
    x.lease(2, 4);
    x.lease(3, 7);
    due.is("the fewest ahead of the least", x.least(1), 8);
    due.is("how many", x.least(0), 1);
    x.purse(3, -1);
    due.is("evicted", x.nights(4) > 0 ? x.ofTenant(3, 4) : 0, 1);
    due.is("one evicted holds nothing", x.clash() + x.least(1), 0);
  }

  private static void clash() {
    MoonRooms x = new MoonRooms();
    int[] kms = {0, 40, 40, 10};
    for (int km : kms) {
      x.tenant(km);
    }
    due.is("none", x.clash(), 0);
    x.lease(0, 1);
    x.lease(1, 7);
    x.lease(2, 6);
    due.is("sharers don't", x.clash(), 1);
    due.is("how many", x.least(0), 1);
    due.is("the least set", x.least(1), 1);
    x.lease(3, 4);
    due.is("a poet does", x.clash(), 3);
    due.is("how many", x.least(0), 2);
    due.is("the least of several", x.least(1), 2 + 4);
    x.lease(0, 8);
    due.is("fewest", x.least(1), 8);
    due.is("least(2)", x.least(2), Due.BEYOND);
    due.is("least(-1)", x.least(-1), Due.BEYOND);
    due.is("leases stay", x.ofTenant(3, 2), 4);
  }

  private static void beside() {
    MoonRooms x = new MoonRooms();
    x.tenant(0);
    x.tenant(0);
    x.lease(1, 16777215);
    x.lease(0, 1 << 9);
    due.is("four", x.beside(0), 1 << 1 | 1 << 8 | 1 << 10 | 1 << 17);
    x.lease(0, 1 << 7);
    due.is("a corner", x.beside(0), 1 << 6 | 1 << 15);
    x.lease(0, 1 << 16);
    due.is("another", x.beside(0), 1 << 8 | 1 << 17);
    x.lease(0, 1 << 8);
    due.is("an edge", x.beside(0), 1 | 1 << 16 | 1 << 9);
    x.lease(0, 3);
    due.is("not its own", x.beside(0), 4 | 1 << 8 | 1 << 9);
    x.lease(1, 4);
    due.is("those of others alone", x.beside(0), 4);
    due.is("of no one", x.beside(2), Due.BEYOND);
    x.lease(0, 0);
    due.is("of none", x.beside(0), 0);
  }

  /** BESIDE each CELL, with another who holds all, by rows and columns. */
  private static void besideEdges() {
    MoonRooms x = new MoonRooms();
    x.tenant(0);
    x.tenant(0);
    x.lease(1, 0xFFFFFF);
    for (int cell = 0; cell < 24; cell++) {
      int want = 0;
      for (int other = 0; other < 24; other++) {
        int steps = Math.abs(cell / 8 - other / 8) + Math.abs(cell % 8 - other % 8);
        want |= steps == 1 ? 1 << other : 0;
      }
      x.lease(0, 1 << cell);
      due.is("beside " + cell, x.beside(0), want);
    }
    x.lease(0, 0xFFFFFF);
    due.is("beside all", x.beside(0), 0);
    x.lease(0, 1);
    x.lease(1, 3);
    due.is("its own isn't, though another holds it", x.beside(1), 0);
    due.is("what the other holds beside it", x.beside(0), 2);
    x.tenant(0);
    x.lease(2, 0x100);
    due.is("of several others", x.beside(0), 0x102);
  }

  private static int[] roomsBy(int... wishes) {
    MoonRooms x = new MoonRooms();
    for (int i = 0; i < wishes.length; i++) {
      x.tenant(10 * i);
    }
    Due.sheet(x, 1, 32, wishes);
    int[] got = new int[wishes.length + 1];
    got[wishes.length] = x.rooms(1, -1);
    for (int i = 0; i < wishes.length; i++) {
      got[i] = x.rooms(1, i);
    }
    return got;
  }

  /** The last number due is how many can have one. */
  private static void roomsAre(String name, int[] got, int... want) {
    for (int i = 0; i < want.length; i++) {
      due.is(name + ", " + i, i < got.length ? got[i] : -9, want[i]);
    }
  }

  private static void roomsInOrder() {
    roomsAre("one who wishes nothing", roomsBy(0), -1, 0);
    roomsAre("one who wishes the last", roomsBy(1 << 23), 23, 1);
    roomsAre("one who wishes all", roomsBy(0xFFFFFF), 0, 1);
    roomsAre("two for one", roomsBy(4, 4), 2, -1, 1);
    roomsAre("the least ahead", roomsBy(6, 6), 1, 2, 2);
    roomsAre("one gives way for more", roomsBy(3, 1), 1, 0, 2);
    roomsAre("none gives way for none", roomsBy(3, 0, 1), 1, -1, 0, 2);
    roomsAre("a chain", roomsBy(3, 6, 12, 1), 1, 2, 3, 0, 4);
    roomsAre("the first is served, the last has none", roomsBy(1, 2, 3), 0, 1, -1, 2);
    roomsAre("six for three", roomsBy(7, 7, 7, 7, 7, 7), 0, 1, 2, -1, -1, -1, 3);
    roomsAre("six for six", roomsBy(63, 31, 15, 7, 3, 1), 5, 4, 3, 2, 1, 0, 6);
    roomsAre("a CELL ahead of none, though a later one loses it", roomsBy(1, 1, 2), 0, -1, 1, 2);
    MoonRooms x = new MoonRooms();
    x.tenant(0);
    x.lease(0, 1);
    x.tenant(0);
    Due.sheet(x, 0, 8, 1, 3);
    due.is("what is held doesn't matter", x.rooms(0, 0), 0);
    due.is("what is held doesn't matter", x.rooms(0, 1), 1);
    x.purse(0, -1);
    x.nights(4);
    due.is("nor who is EVICTED", x.rooms(0, 0), 0);
  }

  private static void rooms() {
    MoonRooms x = new MoonRooms();
    due.is("rooms(4, -1)", x.rooms(4, -1), Due.BEYOND);
    due.is("rooms(-1, -1)", x.rooms(-1, -1), Due.BEYOND);
    due.is("rooms(0, -2)", x.rooms(0, -2), Due.BEYOND);
    due.is("rooms(0, 0) of none", x.rooms(0, 0), Due.BEYOND);
    due.is("missing", x.rooms(0, -1), Due.NONE);
    x.sheet(0, 8, 0);
    due.is("none of none", x.rooms(0, -1), 0);
    x.tenant(0);
    x.tenant(0);
    x.tenant(0);
    due.is("too few", x.rooms(0, -1), Due.NONE);
    Due.sheet(x, 0, 32, 3, 3, 3);
    due.is("how many", x.rooms(0, -1), 2);
    due.is("first", x.rooms(0, 0), 0);
    due.is("second", x.rooms(0, 1), 1);
    due.is("none left", x.rooms(0, 2), -1);
    Due.sheet(x, 0, 32, 3, 1, 16777215);
    due.is("how many", x.rooms(0, -1), 3);
    due.is("must leave the first", x.rooms(0, 0), 1);
    due.is("second", x.rooms(0, 1), 0);
    due.is("third", x.rooms(0, 2), 2);
    Due.sheet(x, 0, 32, 0, 0, 8);
    due.is("wishes nothing", x.rooms(0, 0), -1);
    due.is("third", x.rooms(0, 2), 3);
    Due.sheet(x, 0, 32, 0, 0, 16777216);
    due.is("no set", x.rooms(0, 0), Due.NONE);
    Due.sheet(x, 0, 8, 0, 0, 255);
    due.is("eight bits below 0", x.rooms(0, 0), Due.NONE);
    Due.sheet(x, 0, 16, 0, 0, 32767);
    due.is("sixteen bits", x.rooms(0, 2), 0);
    Due.sheet(x, 0, 16, 0, 0, 0, 0);
    due.is("too many", x.rooms(0, 2), Due.NONE);
    due.is("rooms(0, 3)", x.rooms(0, 3), Due.BEYOND);
  }

  private static void falls() {
    MoonRooms x = new MoonRooms();
    for (int night = 0; night < 3; night++) {
      for (int p = 0; p < 16; p++) {
        for (int d = 0; d < 7; d++) {
          int behind = 0;
          while ((night + behind) % 16 != p || (night + behind) % 7 != d) {
            behind++;
          }
          due.is("falls(" + p + ", " + d + ")", x.falls(p, d), behind);
        }
      }
      x = new MoonRooms();
      x.nights(night + 1);
    }
    due.is("falls(-1, 0)", x.falls(-1, 0), Due.BEYOND);
    due.is("falls(16, 0)", x.falls(16, 0), Due.BEYOND);
    due.is("falls(0, -1)", x.falls(0, -1), Due.BEYOND);
    due.is("falls(0, 7)", x.falls(0, 7), Due.BEYOND);
  }

  private static void was() {
    MoonRooms x = new MoonRooms();
    due.is("was(4)", x.was(4), Due.BEYOND);
    due.is("was(0)", x.was(0), Due.NONE);
    x.sheet(0, 8, 0);
    due.is("of no nights", x.was(0), 16777215);
    Due.sheet(x, 0, 8, 0, 0, 1);
    due.is("the second column from behind", x.was(0), 64 * 0x010101);
    Due.sheet(x, 0, 16, 0, 1, 1, 1, 1, 1, 1, 1, 1, 0);
    due.is("the last column", x.was(0), 128 * 0x010101);
    Due.sheet(x, 0, 32, 1);
    due.is("none in phase 0", x.was(0), 0);
    Due.sheet(x, 0, 32, 1, 2);
    due.is("2", x.was(0), Due.NONE);
    Due.sheet(x, 0, 32, 0, -1);
    due.is("-1", x.was(0), Due.NONE);
    Due.text(x, 0, "n=1");
    Due.sheet(x, 0, 8, 0, 0, 1);
    due.is("by clouds", x.was(0), 192 * 0x010101);
  }

  private static void wasEdges() {
    MoonRooms x = new MoonRooms();
    int[] nights = new int[40];
    for (int i = 0; i < 40; i++) {
      nights[i] = i % 16 >= 1 && i % 16 <= 8 ? 1 : 0;
    }
    Due.sheet(x, 3, 32, nights);
    due.is("the last column, by 40 NIGHTS", x.was(3), 0x808080);
    x.put(3, 39, 0);
    due.is("but for the last one", x.was(3), 0);
    x.put(3, 39, 1);
    x.put(3, 0, 1);
    due.is("but for the first one", x.was(3), 0);
    Due.sheet(x, 0, 8, 0);
    due.is("not SEEN in this one: all", x.was(0), 0xFFFFFF);
    x.nights(8);
    due.is("not SEEN in this one: none", x.was(0), 0);
    x.put(0, 0, 1);
    due.is("SEEN in this one: all", x.was(0), 0xFFFFFF);
    Due.sheet(x, 0, 8, 1, 0);
    due.is("SEEN in this one, not in the next", x.was(0), 0x808080);
    Due.sheet(x, 0, 16, 1, 2);
    due.is("2 behind what fits", x.was(0), Due.NONE);
    Due.sheet(x, 0, 8, 0, 2);
    due.is("2 behind what no CELL fits", x.was(0), Due.NONE);
    Due.sheet(x, 0, 32, 0, 256);
    due.is("256", x.was(0), Due.NONE);
    Due.sheet(x, 0, 8, 256, 257);
    due.is("the lowest bits of 256 and 257", x.was(0), 0);
  }

  private static void dear() {
    MoonRooms x = new MoonRooms();
    x.tenant(0);
    due.is("dear(0)", x.dear(0), Due.NONE);
    due.is("dear(1)", x.dear(1), 0);
    due.is("dear(2)", x.dear(2), 4);
    x.lease(0, 255);
    due.is("not held", x.dear(99), 12);
    Due.text(x, 1, "c*10+r");
    due.is("by a text", x.dear(99), 23);
    due.is("not above", x.dear(61), 14);
    due.is("least of several", x.dear(0), Due.NONE);
    Due.text(x, 1, "7+0*q");
    due.is("the least cell", x.dear(7), 8);
    due.is("just not above", x.dear(6), Due.NONE);
    Due.text(x, 1, "50+q*40-r*10");
    due.is("held ones don't count, though dear", x.dear(99), 8);
    Due.text(x, 1, "10+(r=2)*20-(r=2&c=0)*25");
    due.is("the greatest, the least of those", x.dear(99), 17);
    due.is("the greatest of those not above", x.dear(29), 8);
    due.is("just it", x.dear(30), 17);
    due.is("below all others", x.dear(9), 16);
    due.is("just the last", x.dear(5), 16);
    due.is("below all", x.dear(4), Due.NONE);
    x.tenant(0);
    x.lease(1, 1 << 17);
    due.is("nor what another holds", x.dear(99), 18);
    x.lease(1, 0);
    x.lease(0, 16777215);
    due.is("all held", x.dear(99), Due.NONE);
    due.is("dear(100)", x.dear(100), Due.BEYOND);
    due.is("dear(-1)", x.dear(-1), Due.BEYOND);
  }
}
