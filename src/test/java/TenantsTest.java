/** Promises 1 to 11: a new object, the moon, tenants. */
public final class TenantsTest {
  private static final Due due = new Due("TenantsTest");

  public static void main(String[] args) {
    newObject();
    cells();
    phases();
    phasesByNight();
    weather();
    takingIn();
    looks();
    looksAtEdges();
    owes();
    owesCut();
    sharers();
    sharersCut();
    become();
    as();
    lease();
    purse();
    pardon();
    due.end();
  }

  private static void newObject() {
    MoonRooms x = new MoonRooms();
    for (int what = 0; what <= 9; what++) {
      due.is("count(" + what + ") at first", x.count(what), 0);
    }
    due.is("z at first", x.count(10), 1);
    due.is("trace at first", x.trace(0), Due.NONE);
    due.is("sheet 3 at first", x.judge(3), Due.NONE);
    due.is("image at first", x.restore(), Due.NONE);
    due.is("law 0 at first", x.law(0, 5, 5, 5), 0);
    due.is("law 1 at first", x.law(1, 2, 7, 3), 2);
  }

  private static void cells() {
    MoonRooms x = new MoonRooms();
    x.nights(3);
    due.is("cell 4 lit by 3", x.ofCell(4, 0), 0);
    due.is("cell 5 lit by 3", x.ofCell(5, 0), 1);
    due.is("cell 21 seen by 3", x.ofCell(21, 1), 1);
    due.is("cell 20 seen by 3", x.ofCell(20, 1), 0);
    Due.text(x, 0, "w");
    due.is("no cloud", x.ofCell(21, 1), 1);
    x.weather(1);
    due.is("cloud", x.ofCell(21, 1), 0);
    due.is("lit behind a cloud", x.ofCell(21, 0), 1);
    due.is("rent of 3", x.ofCell(3, 2), 1);
    due.is("rent of 20", x.ofCell(20, 2), 2);
    x.tenant(0);
    x.tenant(0);
    x.lease(1, 1 << 23);
    due.is("who holds 23", x.ofCell(23, 3), 2);
    due.is("who holds 22", x.ofCell(22, 3), 0);
    Due.text(x, 1, "r*30+c+q*2");
    due.is("rent by row, column, holders", x.ofCell(23, 2), 69);
    due.is("cell 24", x.ofCell(24, 0), Due.BEYOND);
    due.is("cell -1", x.ofCell(-1, 0), Due.BEYOND);
    Due.text(x, 0, "w-5");
    x.weather(4);
    due.is("CLOUDY below 0", x.ofCell(21, 1), 0);
    x.weather(5);
    due.is("not CLOUDY by 0", x.ofCell(21, 1), 1);
    x.weather(6);
    due.is("CLOUDY above 0", x.ofCell(21, 1), 0);
    due.is("what 4", x.ofCell(0, 4), Due.BEYOND);
    due.is("what -1", x.ofCell(0, -1), Due.BEYOND);
  }

  private static void phases() {
    MoonRooms x = new MoonRooms();
    for (int p = 0; p < 16; p++) {
      int set = 0;
      for (int cell = 0; cell < 24; cell++) {
        boolean on = p <= 8 ? cell % 8 >= 8 - p : cell % 8 < 16 - p;
        set |= on ? 1 << cell : 0;
      }
      due.is("lit(" + p + ")", x.lit(p), set);
    }
    due.is("lit(-1)", x.lit(-1), Due.BEYOND);
    due.is("lit(16)", x.lit(16), Due.BEYOND);
  }

  private static void phasesByNight() {
    for (int night : new int[] {0, 1, 7, 8, 9, 15, 16, 17, 24, 31, 32, 33, 9983, 9984, 9999}) {
      MoonRooms x = Worlds.at(night);
      int p = night % 16;
      int columns = p <= 8 ? p : 16 - p;
      due.is("PHASE in " + night, x.count(2), p);
      due.is("SEEN in " + night, x.count(5), 3 * columns);
      for (int cell = 0; cell < 24; cell++) {
        int on = p <= 8 ? cell % 8 > 7 - p ? 1 : 0 : cell % 8 < 16 - p ? 1 : 0;
        due.is(cell + " LIT in " + night, x.ofCell(cell, 0), on);
        due.is(cell + " SEEN in " + night, x.ofCell(cell, 1), on);
      }
    }
  }

  private static void weather() {
    MoonRooms x = new MoonRooms();
    due.is("weather(9)", x.weather(9), 0);
    due.is("weather(-1)", x.weather(-1), Due.BEYOND);
    due.is("weather(10)", x.weather(10), Due.BEYOND);
    due.is("weather(0)", x.weather(0), 9);
    due.is("weather", x.count(3), 0);
  }

  private static void takingIn() {
    MoonRooms x = new MoonRooms();
    due.is("tenant(-1)", x.tenant(-1), Due.BEYOND);
    due.is("tenant(70)", x.tenant(70), Due.BEYOND);
    for (int i = 0; i < 6; i++) {
      due.is("tenant", x.tenant(69 - i), i);
    }
    due.is("a seventh", x.tenant(0), Due.FULL);
    due.is("a seventh of no kind", x.tenant(70), Due.BEYOND);
    due.is("kind", x.ofTenant(5, 0), 6);
    due.is("m", x.ofTenant(5, 1), 4);
    due.is("lease", x.ofTenant(5, 2), 0);
    due.is("purse", x.ofTenant(5, 3), 100000);
    due.is("evicted", x.ofTenant(5, 4), 0);
    due.is("what 8", x.ofTenant(5, 8), Due.BEYOND);
    due.is("what -1", x.ofTenant(5, -1), Due.BEYOND);
    due.is("tenant 6", x.ofTenant(6, 0), Due.BEYOND);
    due.is("tenant -1", x.ofTenant(-1, 0), Due.BEYOND);
  }

  private static void looks() {
    MoonRooms x = new MoonRooms();
    int[] kinds = {0, 11, 20, 30, 43, 50};
    for (int km : kinds) {
      x.tenant(km);
    }
    x.lease(2, 1 << 7);
    x.lease(5, 1 << 7);
    int[][] want = {{1, 0, 0, 1, 1, 0}, {1, 1, 1, 0, 1, 0}, {1, 0, 1, 1, 1, 0}};
    for (int night = 0; night < 3; night++) {
      for (int t = 0; t < 6; t++) {
        due.is("night " + night + ": " + t + " looks", x.ofTenant(t, 5), want[night][t]);
      }
      x.nights(1);
    }
    x.become(1, 41);
    due.is("night 3: a sharer of 1 looks", x.ofTenant(1, 5), 0);
    x.become(1, 40);
    due.is("night 3: a sharer of 0 looks", x.ofTenant(1, 5), 1);
    x.become(1, 60);
    due.is("night 3: an agent looks", x.ofTenant(1, 5), 0);
    due.is("what is seen", x.ofTenant(2, 6), 128);
    x.lease(2, 255);
    due.is("what is seen of more", x.ofTenant(2, 6), 128 + 64 + 32);
    Due.text(x, 0, "p=3");
    due.is("nothing is seen behind clouds", x.ofTenant(2, 6), 0);
    due.is("and it looks, as something is LIT", x.ofTenant(2, 5), 1);
    Due.text(x, 0, "p=2");
    due.is("what is seen of more", x.ofTenant(2, 6), 128 + 64 + 32);
    x.lease(2, 31);
    due.is("nothing is seen of what isn't LIT", x.ofTenant(2, 6), 0);
  }

  private static int looksIn(int km, int lease, int night, String clouds) {
    MoonRooms x = Worlds.at(night);
    Due.text(x, 0, clouds);
    x.tenant(km);
    x.lease(0, lease);
    return x.ofTenant(0, 5);
  }

  private static void looksAtEdges() {
    for (int m = 0; m <= 9; m++) {
      for (int night = 0; night < 4; night++) {
        int want = m > 2 || night % 3 == m ? 1 : 0;
        due.is("a POET of " + m + " in " + night, looksIn(10 + m, 0, night, "0"), want);
        due.is("a SHARER of " + m + " in " + night, looksIn(40 + m, 0, night, "0"), want);
      }
    }
    due.is("a TENANT who holds nothing, in clouds", looksIn(9, 0, 0, "1"), 1);
    due.is("a WIDOWER of no LEASE", looksIn(20, 0, 8, "0"), 0);
    due.is("a WIDOWER, none LIT", looksIn(20, 0x7F7F7F, 1, "0"), 0);
    due.is("a WIDOWER, the last column LIT", looksIn(20, 1 << 23, 1, "0"), 1);
    due.is("a WIDOWER, LIT behind clouds", looksIn(20, 1 << 23, 1, "1"), 1);
    due.is("a WIDOWER, the first column LIT", looksIn(20, 1, 15, "0"), 1);
    due.is("a WIDOWER, PHASE 0", looksIn(20, 0xFFFFFF, 16, "0"), 0);
    due.is("a GHOST, all LIT", looksIn(50, 0xFFFFFF, 8, "0"), 0);
    for (int night = 0; night < 3; night++) {
      due.is("a BANKER in " + night, looksIn(33, 0, night, "0"), 1 - night % 2);
      due.is("an AGENT in " + night, looksIn(63, 0, night, "0"), 1 - night % 2);
    }
    due.is("a BANKER in the last NIGHT", looksIn(30, 0, 9999, "0"), 0);
    due.is("a POET in the last NIGHT", looksIn(10, 0, 9999, "0"), 1);
  }

  /** What one of a KIND and m owes for one CELL of this rent. */
  private static int owesBy(int km, int rent) {
    MoonRooms x = new MoonRooms();
    Due.text(x, 1, "" + rent);
    x.tenant(km);
    x.lease(0, 1 << 12);
    return x.ofTenant(0, 7);
  }

  private static void owesCut() {
    due.is("a TENANT by 99", owesBy(9, 99), 99);
    due.is("a POET by 0", owesBy(10, 0), 0);
    due.is("a POET by 1", owesBy(10, 1), 0);
    due.is("a POET by 3", owesBy(19, 3), 1);
    due.is("a SHARER alone by 3", owesBy(49, 3), 1);
    due.is("a WIDOWER of 0 by 7", owesBy(20, 7), 7);
    due.is("a WIDOWER of 9 by 7", owesBy(29, 7), 16);
    due.is("a GHOST of 9 by 0", owesBy(59, 0), 9);
    due.is("a BANKER by 9", owesBy(39, 9), 9);
    due.is("a BANKER by 10", owesBy(39, 10), 9);
    due.is("a BANKER by 19", owesBy(39, 19), 18);
    due.is("an AGENT of 0 by 9", owesBy(60, 9), 9);
    due.is("an AGENT of 0 by 10", owesBy(60, 10), 9);
    due.is("an AGENT of 2 by 19", owesBy(62, 19), 16);
    due.is("an AGENT of 9 by 99", owesBy(69, 99), 81);
    due.is("an AGENT of 9 by 9", owesBy(69, 9), 0);
    due.is("an AGENT of 9 by 10", owesBy(69, 10), 0);
    due.is("an AGENT of 9 by 11", owesBy(69, 11), 1);
    due.is("an AGENT of 9 by 8, 0 at least", owesBy(69, 8), 0);
    due.is("an AGENT of 1 by 0, 0 at least", owesBy(61, 0), 0);
    MoonRooms x = new MoonRooms();
    Due.text(x, 1, "99");
    x.tenant(0);
    x.lease(0, 0xFFFFFF);
    due.is("together for all CELLS, beyond 99", x.ofTenant(0, 7), 24 * 99);
    Due.text(x, 1, "9");
    x.lease(0, 0x30);
    x.become(0, 30);
    due.is("a tenth of all, not of each", x.ofTenant(0, 7), 17);
    Due.text(x, 1, "q*5");
    x.tenant(20);
    x.lease(1, 0x11);
    due.is("by how many hold each CELL", x.ofTenant(1, 7), 10 + 5);
  }

  /** What a SHARER owes for one CELL of this rent, with so many others there. */
  private static int sharesBy(int rent, int others) {
    MoonRooms x = new MoonRooms();
    Due.text(x, 1, "" + rent);
    x.tenant(40);
    for (int i = 0; i < others; i++) {
      x.tenant(i * 10);
      x.lease(i + 1, 1 << 12 | 1 << i);
    }
    x.lease(0, 1 << 12);
    return x.ofTenant(0, 7);
  }

  private static void sharersCut() {
    due.is("7 with none", sharesBy(7, 0), 3);
    due.is("7 with one", sharesBy(7, 1), 1);
    due.is("7 with two", sharesBy(7, 2), 1);
    due.is("7 with three", sharesBy(7, 3), 0);
    due.is("99 with five", sharesBy(99, 5), 8);
    due.is("95 with five", sharesBy(95, 5), 7);
    MoonRooms x = new MoonRooms();
    Due.text(x, 1, "8");
    x.tenant(40);
    x.tenant(20);
    x.lease(0, 1);
    x.lease(1, 1);
    due.is("with one who holds it", x.ofTenant(0, 7), 2);
    x.purse(0, 100);
    x.purse(1, -1);
    x.nights(4);
    due.is("who is EVICTED and holds none", x.ofTenant(0, 7), 4);
  }

  private static void owes() {
    MoonRooms x = new MoonRooms();
    Due.text(x, 1, "17+c");
    x.tenant(7);
    x.lease(0, 3);
    int[] kms = {7, 17, 27, 37, 47, 57, 67};
    int[] want = {35, 17, 42, 32, 17, 42, 25};
    for (int i = 0; i < kms.length; i++) {
      x.become(0, kms[i]);
      due.is("owes of " + kms[i], x.ofTenant(0, 7), want[i]);
    }
    Due.text(x, 1, "3");
    x.become(0, 69);
    due.is("an agent owes 0 at least", x.ofTenant(0, 7), 0);
    x.lease(0, 0);
    x.become(0, 25);
    due.is("a widower of no lease owes m", x.ofTenant(0, 7), 5);
  }

  private static void sharers() {
    MoonRooms x = new MoonRooms();
    Due.text(x, 1, "20");
    x.tenant(40);
    x.lease(0, 7);
    due.is("alone", x.ofTenant(0, 7), 30);
    x.tenant(0);
    x.lease(1, 3);
    due.is("with one who holds two", x.ofTenant(0, 7), 15);
    x.tenant(0);
    x.lease(2, 4);
    due.is("with two", x.ofTenant(0, 7), 10);
    x.tenant(0);
    x.lease(3, 12);
    due.is("with three, cut", x.ofTenant(0, 7), 7);
    x.lease(3, 8);
    due.is("with one who holds another", x.ofTenant(0, 7), 10);
  }

  private static void become() {
    MoonRooms x = new MoonRooms();
    x.tenant(15);
    x.lease(0, 9);
    x.purse(0, 8);
    due.is("become", x.become(0, 62), 1);
    due.is("kind", x.ofTenant(0, 0), 6);
    due.is("m", x.ofTenant(0, 1), 2);
    due.is("lease stays", x.ofTenant(0, 2), 9);
    due.is("purse stays", x.ofTenant(0, 3), 100008);
    due.is("become(1, 0)", x.become(1, 0), Due.BEYOND);
    due.is("become(0, 70)", x.become(0, 70), Due.BEYOND);
    due.is("become(0, -1)", x.become(0, -1), Due.BEYOND);
    due.is("kind stays", x.ofTenant(0, 0), 6);
  }

  private static void as() {
    MoonRooms x = new MoonRooms();
    x.tenant(0);
    int[] above = {-1, 0, 0, 0, 1, 2, 3};
    for (int kind = 0; kind < 7; kind++) {
      x.become(0, 10 * kind + 3);
      for (int other = 0; other < 7; other++) {
        boolean under = kind == other || other == 0 || above[kind] == other;
        due.is(kind + " as " + other, x.as(0, other), under ? 3 : Due.KIND);
      }
    }
    due.is("as(0, 7)", x.as(0, 7), Due.BEYOND);
    due.is("as(0, -1)", x.as(0, -1), Due.BEYOND);
    due.is("as(1, 0)", x.as(1, 0), Due.BEYOND);
  }

  private static void lease() {
    MoonRooms x = new MoonRooms();
    x.tenant(0);
    due.is("lease", x.lease(0, 16777215), 0);
    due.is("lease of too much", x.lease(0, 16777216), Due.BEYOND);
    due.is("lease of -1", x.lease(0, -1), Due.BEYOND);
    due.is("lease again", x.lease(0, 5), 16777215);
    due.is("held", x.count(4), 2);
    due.is("lease of no one", x.lease(1, 0), Due.BEYOND);
    x.purse(0, -1);
    x.nights(4);
    due.is("evicted", x.ofTenant(0, 4), 1);
    due.is("its lease", x.ofTenant(0, 2), 0);
    due.is("lease of an evicted", x.lease(0, 5), Due.STATE);
    due.is("no set of an evicted", x.lease(0, -5), Due.BEYOND);
  }

  private static void purse() {
    MoonRooms x = new MoonRooms();
    x.tenant(0);
    due.is("purse", x.purse(0, 9999), 100000);
    due.is("purse", x.purse(0, -9999), 109999);
    due.is("purse too much", x.purse(0, 10000), Due.BEYOND);
    due.is("purse too little", x.purse(0, -10000), Due.BEYOND);
    due.is("purse of no one", x.purse(1, 0), Due.BEYOND);
    due.is("purse", x.purse(0, 0), 90001);
  }

  private static void pardon() {
    MoonRooms x = new MoonRooms();
    x.tenant(0);
    x.tenant(0);
    due.is("pardon of none", x.pardon(2), Due.BEYOND);
    due.is("pardon ahead", x.pardon(0), Due.STATE);
    x.purse(0, -1);
    x.purse(1, -1);
    due.is("nights(4)", x.nights(4), 2);
    due.is("pardon", x.pardon(0), 1);
    due.is("purse", x.ofTenant(0, 3), 100000);
    due.is("evicted", x.ofTenant(0, 4), 0);
    due.is("pardon again", x.pardon(0), Due.STATE);
    due.is("pardon the other", x.pardon(1), 0);
    x.lease(0, 1);
    due.is("one pardoned owes again", x.nights(4), 1);
    due.is("from PURSE 0", x.ofTenant(0, 3), 100000 - 1);
    due.is("one pardoned that owes nothing stays", x.ofTenant(1, 4), 0);
  }
}
