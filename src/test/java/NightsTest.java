/** Promises 15 and 16: nights, and nights by draws. */
public final class NightsTest {
  private static final Due due = new Due("NightsTest");

  public static void main(String[] args) {
    earns();
    quarters();
    oneByOne();
    limits();
    bounds();
    loose();
    due.end();
  }

  private static int purseAfter(int km, int lease, int fromNight, int nights) {
    MoonRooms x = new MoonRooms();
    Due.text(x, 1, "0");
    for (int left = fromNight; left > 0; left -= 100) {
      x.nights(Math.min(left, 100));
    }
    x.tenant(km);
    x.lease(0, lease);
    x.purse(0, 100);
    x.nights(nights);
    return x.ofTenant(0, 3) - 100000 - 100;
  }

  private static void earns() {
    int three = 1 << 7 | 1 << 15 | 1 << 23;
    due.is("tenant", purseAfter(0, three, 1, 1), 5);
    due.is("tenant who sees none", purseAfter(0, 1, 1, 1), 0);
    due.is("tenant who holds none", purseAfter(0, 0, 1, 1), 0);
    due.is("poet", purseAfter(11, three, 1, 1), 9);
    due.is("poet who doesn't look", purseAfter(12, three, 1, 1), 0);
    due.is("poet of 7", purseAfter(17, three, 1, 1), 9);
    due.is("widower", purseAfter(20, three, 1, 1), 5);
    due.is("banker at odds", purseAfter(30, three, 1, 1), 0);
    due.is("banker", purseAfter(30, three | 1, 2, 1), 6);
    due.is("sharer", purseAfter(42, three, 2, 1), 9);
    due.is("ghost", purseAfter(50, three, 2, 1), 0);
    due.is("agent", purseAfter(60, three | 64, 2, 1), 8);
    due.is("phase 0", purseAfter(0, 16777215, 16, 1), 0);
    MoonRooms x = new MoonRooms();
    x.tenant(0);
    x.lease(0, 128);
    Due.text(x, 0, "n=2");
    x.nights(3);
    due.is("but for the clouds", x.ofTenant(0, 3), 100005);
  }

  private static void quarters() {
    MoonRooms x = new MoonRooms();
    x.tenant(0);
    x.lease(0, 1);
    x.purse(0, 3);
    x.nights(3);
    due.is("ahead of the quarter", x.ofTenant(0, 3), 100003);
    x.nights(1);
    due.is("at the quarter", x.ofTenant(0, 3), 100002);
    due.is("nights(12)", x.nights(12), 0);
    due.is("what it earned and owed", x.ofTenant(0, 3), 100000 + 2 + 8 * 5 - 3);
    MoonRooms y = new MoonRooms();
    y.tenant(0);
    y.lease(0, 1);
    due.is("evicted at the quarter", y.nights(4), 1);
    due.is("purse", y.ofTenant(0, 3), 99999);
    due.is("lease", y.ofTenant(0, 2), 0);
    due.is("evicted still", y.nights(100), 1);
    due.is("it pays no more", y.ofTenant(0, 3), 99999);
    MoonRooms z = new MoonRooms();
    z.tenant(29);
    due.is("a widower of none owes m", z.nights(4), 1);
    due.is("purse", z.ofTenant(0, 3), 99991);
    MoonRooms w = new MoonRooms();
    w.tenant(0);
    due.is("0 is not below 0", w.nights(4), 0);
  }

  private static void oneByOne() {
    MoonRooms x = new MoonRooms();
    Due.text(x, 1, "q*10");
    x.tenant(0);
    x.tenant(0);
    x.lease(0, 1);
    x.lease(1, 1);
    x.purse(0, 5);
    x.purse(1, 15);
    due.is("the second owes as all is then", x.nights(4), 1);
    due.is("first", x.ofTenant(0, 3), 99985);
    due.is("second", x.ofTenant(1, 3), 100005);
  }

  private static void limits() {
    MoonRooms x = new MoonRooms();
    Due.text(x, 1, "1");
    x.tenant(0);
    x.lease(0, 128);
    x.purse(0, 9998);
    x.nights(2);
    due.is("held at 9999", x.ofTenant(0, 3), 109999);
    x.nights(2);
    due.is("owed from 9999", x.ofTenant(0, 3), 109998);
    x.purse(0, -9990);
    x.lease(0, 16777215);
    Due.text(x, 1, "99");
    x.nights(4);
    due.is("-9999 at least", x.ofTenant(0, 3), 90001);
  }

  private static void bounds() {
    MoonRooms x = new MoonRooms();
    due.is("nights(0)", x.nights(0), Due.BEYOND);
    due.is("nights(101)", x.nights(101), Due.BEYOND);
    for (int i = 0; i < 99; i++) {
      x.nights(100);
    }
    due.is("night", x.count(1), 9900);
    due.is("phase", x.count(2), 9900 % 16);
    due.is("nights(100)", x.nights(100), Due.STATE);
    due.is("nights(101)", x.nights(101), Due.BEYOND);
    due.is("nights(98)", x.nights(98), 0);
    x.image();
    due.is("loose(2)", x.loose(2), Due.STATE);
    due.is("loose(1)", x.loose(1), 0);
    due.is("night", x.count(1), 9999);
    x.restore();
    due.is("nights(2)", x.nights(2), Due.STATE);
    due.is("nights(1)", x.nights(1), 0);
    due.is("night", x.count(1), 9999);
    due.is("nights(1)", x.nights(1), Due.STATE);
    due.is("loose(1)", x.loose(1), Due.STATE);
    due.is("loose(0)", x.loose(0), Due.BEYOND);
    due.is("z", x.count(10), 1);
    x.tenant(0);
    x.lease(0, 16777215);
    due.is("thought goes beyond", x.then(100, 0, 0), 99969);
    due.is("stays", x.stays(0), 1);
    due.is("whole", x.whole(0), (8 - 9999 % 16 + 16) % 16);
    due.is("often", x.often(0, 100), 93);
  }

  private static int z;

  private static int draw() {
    z = z * 1103515245 + 12345;
    return z >>> 8;
  }

  private static void loose() {
    MoonRooms x = new MoonRooms();
    due.is("loose(41)", x.loose(41), Due.BEYOND);
    due.is("loose(2)", x.loose(2), 0);
    z = 1;
    draw();
    int weather = draw() % 10;
    due.is("without tenants one draw a night", x.count(10), z);
    due.is("weather", x.count(3), weather);
    due.is("night", x.count(1), 2);
    x.tenant(50);
    x.loose(1);
    draw();
    draw();
    due.is("with one it takes a cell", x.ofTenant(0, 2), 1 << draw() % 24);
    due.is("by three draws a night", x.count(10), z);
    MoonRooms y = new MoonRooms();
    for (int i = 0; i < 3; i++) {
      y.tenant(50);
    }
    y.purse(1, -1);
    y.nights(4);
    Due.text(y, 1, "0");
    y.seed(77);
    due.is("loose(40)", y.loose(40), 1);
    int[] leases = new int[3];
    z = 77;
    for (int i = 0; i < 40; i++) {
      draw();
      int who = draw() % 3;
      int cell = draw() % 24;
      leases[who] |= who == 1 ? 0 : 1 << cell;
    }
    for (int i = 0; i < 3; i++) {
      due.is("lease of " + i, y.ofTenant(i, 2), leases[i]);
    }
    due.is("z", y.count(10), z);
  }
}
