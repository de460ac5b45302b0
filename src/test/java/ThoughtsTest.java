/** Promises 17 to 27: what would be. */
public final class ThoughtsTest {
  private static final Due due = new Due("ThoughtsTest");

  public static void main(String[] args) {
    then();
    often();
    whole();
    stays();
    clash();
    beside();
    rooms();
    falls();
    was();
    dear();
    due.end();
  }

  private static void then() {
    MoonRooms x = new MoonRooms();
    x.tenant(0);
    x.lease(0, 1);
    due.is("then(0, 0, 0)", x.then(0, 0, 0), 100000);
    due.is("then(3, 0, 1)", x.then(3, 0, 1), 1);
    due.is("then(4, 0, 1)", x.then(4, 0, 1), 0);
    due.is("then(100, 0, 0)", x.then(100, 0, 0), 99999);
    due.is("night", x.count(1), 0);
    due.is("lease", x.ofTenant(0, 2), 1);
    due.is("then(101, 0, 0)", x.then(101, 0, 0), Due.BEYOND);
    due.is("then(-1, 0, 0)", x.then(-1, 0, 0), Due.BEYOND);
    due.is("then(0, 1, 0)", x.then(0, 1, 0), Due.BEYOND);
    due.is("then(0, 0, 2)", x.then(0, 0, 2), Due.BEYOND);
    due.is("then(0, 0, -1)", x.then(0, 0, -1), Due.BEYOND);
  }

  private static void often() {
    MoonRooms x = new MoonRooms();
    x.tenant(0);
    due.is("of none", x.often(0, 100), 0);
    x.lease(0, 128);
    due.is("this one the first", x.often(0, 1), 0);
    due.is("often(0, 2)", x.often(0, 2), 1);
    due.is("often(0, 32)", x.often(0, 32), 16);
    x.become(0, 30);
    due.is("a banker's", x.often(0, 9), 4);
    Due.text(x, 0, "p=4");
    due.is("but for the clouds", x.often(0, 9), 3);
    due.is("often(0, 0)", x.often(0, 0), Due.BEYOND);
    due.is("often(0, 101)", x.often(0, 101), Due.BEYOND);
    due.is("often(1, 1)", x.often(1, 1), Due.BEYOND);
    x.become(0, 0);
    Due.text(x, 0, "0");
    due.is("as its lease is now, though evicted later", x.often(0, 8), 7);
  }

  private static void whole() {
    MoonRooms x = new MoonRooms();
    x.tenant(50);
    due.is("of none", x.whole(0), Due.STATE);
    due.is("of no one", x.whole(1), Due.BEYOND);
    x.lease(0, 1 << 16);
    due.is("first column", x.whole(0), 8);
    x.lease(0, 1 << 23);
    due.is("last column", x.whole(0), 1);
    x.nights(1);
    due.is("at once", x.whole(0), 0);
    Due.text(x, 0, "n<101");
    due.is("by 100", x.whole(0), 100);
    Due.text(x, 0, "n<102");
    due.is("not by 100", x.whole(0), Due.NONE);
    Due.text(x, 0, "w");
    x.weather(1);
    due.is("never", x.whole(0), Due.NONE);
  }

  private static void stays() {
    MoonRooms x = new MoonRooms();
    x.tenant(0);
    due.is("stays(1)", x.stays(1), Due.BEYOND);
    due.is("owes nothing", x.stays(0), Due.NONE);
    x.lease(0, 1);
    due.is("to the first quarter", x.stays(0), 4);
    x.become(0, 50);
    x.purse(0, 24);
    due.is("behind 100", x.stays(0), 100);
    x.become(0, 0);
    x.purse(0, 0);
    x.nights(1);
    due.is("one less", x.stays(0), 3);
    x.become(0, 50);
    x.purse(0, 24);
    due.is("behind 99", x.stays(0), 99);
    x.purse(0, 25);
    due.is("behind 103", x.stays(0), Due.NONE);
    due.is("purse", x.ofTenant(0, 3), 100025);
    x.purse(0, -1);
    x.nights(3);
    due.is("evicted", x.stays(0), Due.STATE);
  }

  private static void clash() {
    MoonRooms x = new MoonRooms();
    int[] kms = {0, 40, 40, 10};
    for (int km : kms) {
      x.tenant(km);
    }
    due.is("none", x.clash(), 0);
    x.lease(0, 1);
    x.lease(1, 7);
    x.lease(2, 6);
    due.is("sharers don't", x.clash(), 1);
    due.is("how many", x.least(0), 1);
    due.is("the least set", x.least(1), 1);
    x.lease(3, 4);
    due.is("a poet does", x.clash(), 3);
    due.is("how many", x.least(0), 2);
    due.is("the least of several", x.least(1), 2 + 4);
    x.lease(0, 8);
    due.is("fewest", x.least(1), 8);
    due.is("least(2)", x.least(2), Due.BEYOND);
    due.is("least(-1)", x.least(-1), Due.BEYOND);
    due.is("leases stay", x.ofTenant(3, 2), 4);
  }

  private static void beside() {
    MoonRooms x = new MoonRooms();
    x.tenant(0);
    x.tenant(0);
    x.lease(1, 16777215);
    x.lease(0, 1 << 9);
    due.is("four", x.beside(0), 1 << 1 | 1 << 8 | 1 << 10 | 1 << 17);
    x.lease(0, 1 << 7);
    due.is("a corner", x.beside(0), 1 << 6 | 1 << 15);
    x.lease(0, 1 << 16);
    due.is("another", x.beside(0), 1 << 8 | 1 << 17);
    x.lease(0, 1 << 8);
    due.is("an edge", x.beside(0), 1 | 1 << 16 | 1 << 9);
    x.lease(0, 3);
    due.is("not its own", x.beside(0), 4 | 1 << 8 | 1 << 9);
    x.lease(1, 4);
    due.is("those of others alone", x.beside(0), 4);
    due.is("of no one", x.beside(2), Due.BEYOND);
    x.lease(0, 0);
    due.is("of none", x.beside(0), 0);
  }

  private static void rooms() {
    MoonRooms x = new MoonRooms();
    due.is("rooms(4, -1)", x.rooms(4, -1), Due.BEYOND);
    due.is("rooms(-1, -1)", x.rooms(-1, -1), Due.BEYOND);
    due.is("rooms(0, -2)", x.rooms(0, -2), Due.BEYOND);
    due.is("rooms(0, 0) of none", x.rooms(0, 0), Due.BEYOND);
    due.is("missing", x.rooms(0, -1), Due.NONE);
    x.sheet(0, 8, 0);
    due.is("none of none", x.rooms(0, -1), 0);
    x.tenant(0);
    x.tenant(0);
    x.tenant(0);
    due.is("too few", x.rooms(0, -1), Due.NONE);
    Due.sheet(x, 0, 32, 3, 3, 3);
    due.is("how many", x.rooms(0, -1), 2);
    due.is("first", x.rooms(0, 0), 0);
    due.is("second", x.rooms(0, 1), 1);
    due.is("none left", x.rooms(0, 2), -1);
    Due.sheet(x, 0, 32, 3, 1, 16777215);
    due.is("how many", x.rooms(0, -1), 3);
    due.is("must leave the first", x.rooms(0, 0), 1);
    due.is("second", x.rooms(0, 1), 0);
    due.is("third", x.rooms(0, 2), 2);
    Due.sheet(x, 0, 32, 0, 0, 8);
    due.is("wishes nothing", x.rooms(0, 0), -1);
    due.is("third", x.rooms(0, 2), 3);
    Due.sheet(x, 0, 32, 0, 0, 16777216);
    due.is("no set", x.rooms(0, 0), Due.NONE);
    Due.sheet(x, 0, 8, 0, 0, 255);
    due.is("eight bits below 0", x.rooms(0, 0), Due.NONE);
    Due.sheet(x, 0, 16, 0, 0, 32767);
    due.is("sixteen bits", x.rooms(0, 2), 0);
    Due.sheet(x, 0, 16, 0, 0, 0, 0);
    due.is("too many", x.rooms(0, 2), Due.NONE);
    due.is("rooms(0, 3)", x.rooms(0, 3), Due.BEYOND);
  }

  private static void falls() {
    MoonRooms x = new MoonRooms();
    for (int night = 0; night < 3; night++) {
      for (int p = 0; p < 16; p++) {
        for (int d = 0; d < 7; d++) {
          int behind = 0;
          while ((night + behind) % 16 != p || (night + behind) % 7 != d) {
            behind++;
          }
          due.is("falls(" + p + ", " + d + ")", x.falls(p, d), behind);
        }
      }
      x = new MoonRooms();
      x.nights(night + 1);
    }
    due.is("falls(-1, 0)", x.falls(-1, 0), Due.BEYOND);
    due.is("falls(16, 0)", x.falls(16, 0), Due.BEYOND);
    due.is("falls(0, -1)", x.falls(0, -1), Due.BEYOND);
    due.is("falls(0, 7)", x.falls(0, 7), Due.BEYOND);
  }

  private static void was() {
    MoonRooms x = new MoonRooms();
    due.is("was(4)", x.was(4), Due.BEYOND);
    due.is("was(0)", x.was(0), Due.NONE);
    x.sheet(0, 8, 0);
    due.is("of no nights", x.was(0), 16777215);
    Due.sheet(x, 0, 8, 0, 0, 1);
    due.is("the second column from behind", x.was(0), 64 * 0x010101);
    Due.sheet(x, 0, 16, 0, 1, 1, 1, 1, 1, 1, 1, 1, 0);
    due.is("the last column", x.was(0), 128 * 0x010101);
    Due.sheet(x, 0, 32, 1);
    due.is("none in phase 0", x.was(0), 0);
    Due.sheet(x, 0, 32, 1, 2);
    due.is("2", x.was(0), Due.NONE);
    Due.sheet(x, 0, 32, 0, -1);
    due.is("-1", x.was(0), Due.NONE);
    Due.text(x, 0, "n=1");
    Due.sheet(x, 0, 8, 0, 0, 1);
    due.is("by clouds", x.was(0), 192 * 0x010101);
  }

  private static void dear() {
    MoonRooms x = new MoonRooms();
    x.tenant(0);
    due.is("dear(0)", x.dear(0), Due.NONE);
    due.is("dear(1)", x.dear(1), 0);
    due.is("dear(2)", x.dear(2), 4);
    x.lease(0, 255);
    due.is("not held", x.dear(99), 12);
    Due.text(x, 1, "c*10+r");
    due.is("by a text", x.dear(99), 23);
    due.is("not above", x.dear(61), 14);
    due.is("least of several", x.dear(0), Due.NONE);
    Due.text(x, 1, "7+0*q");
    due.is("the least cell", x.dear(7), 8);
    x.lease(0, 16777215);
    due.is("all held", x.dear(99), Due.NONE);
    due.is("dear(100)", x.dear(100), Due.BEYOND);
    due.is("dear(-1)", x.dear(-1), Due.BEYOND);
  }
}
