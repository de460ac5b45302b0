/** Promises 15 and 16: nights, and nights by draws. */
public final class NightsTest {
  private static final Due due = new Due("NightsTest");

  public static void main(String[] args) {
    earns();
    quarters();
    quarterNights();
    stayingOut();
    oneByOne();
    byNumbers();
    limits();
    held();
    bounds();
    loose();
    looseEdges();
    due.end();
  }

  private static int purseAfter(int km, int lease, int fromNight, int nights) {
    MoonRooms x = new MoonRooms();
    Due.text(x, 1, "0");
    for (int left = fromNight; left > 0; left -= 100) {
      x.nights(Math.min(left, 100));
    }
    x.tenant(km);
    x.lease(0, lease);
    x.purse(0, 100);
    x.nights(nights);
    return x.ofTenant(0, 3) - 100000 - 100;
  }

  private static void earns() {
    int three = 1 << 7 | 1 << 15 | 1 << 23;
    due.is("tenant", purseAfter(0, three, 1, 1), 5);
    due.is("tenant who sees none", purseAfter(0, 1, 1, 1), 0);
    due.is("tenant who holds none", purseAfter(0, 0, 1, 1), 0);
    due.is("poet", purseAfter(11, three, 1, 1), 9);
    due.is("poet who doesn't look", purseAfter(12, three, 1, 1), 0);
    due.is("poet of 7", purseAfter(17, three, 1, 1), 9);
    due.is("widower", purseAfter(20, three, 1, 1), 5);
    due.is("banker at odds", purseAfter(30, three, 1, 1), 0);
    due.is("banker", purseAfter(30, three | 1, 2, 1), 6);
    due.is("sharer", purseAfter(42, three, 2, 1), 9);
    due.is("ghost", purseAfter(50, three, 2, 1), 0);
    due.is("agent", purseAfter(60, three | 64, 2, 1), 8);
    due.is("phase 0", purseAfter(0, 16777215, 16, 1), 0);
    due.is("a tenant who sees all", purseAfter(0, 16777215, 8, 1), 5);
    due.is("a banker who sees all", purseAfter(30, 16777215, 8, 1), 48);
    due.is("an agent who sees one", purseAfter(60, 128, 2, 1), 2);
    due.is("a banker who sees one beside others", purseAfter(30, 128 | 1 | 2, 2, 1), 2);
    due.is("a poet who sees all", purseAfter(12, 16777215, 8, 1), 9);
    due.is("a widower who sees all", purseAfter(29, 16777215, 9, 1), 5);
    due.is("a ghost who'd see all", purseAfter(59, 16777215, 8, 1), 0);
    due.is("a sharer who doesn't look", purseAfter(41, 16777215, 8, 1), 0);
    due.is("an agent at odds", purseAfter(60, 16777215, 9, 1), 0);
    due.is("night by night", purseAfter(0, 128, 0, 16), 8 * 5);
    MoonRooms x = new MoonRooms();
    x.tenant(0);
    x.lease(0, 128);
    Due.text(x, 0, "n=2");
    x.nights(3);
    due.is("but for the clouds", x.ofTenant(0, 3), 100005);
  }

  private static void quarters() {
    MoonRooms x = new MoonRooms();
    x.tenant(0);
    x.lease(0, 1);
    x.purse(0, 3);
    x.nights(3);
    due.is("ahead of the quarter", x.ofTenant(0, 3), 100003);
    x.nights(1);
    due.is("at the quarter", x.ofTenant(0, 3), 100002);
    due.is("nights(12)", x.nights(12), 0);
    due.is("what it earned and owed", x.ofTenant(0, 3), 100000 + 2 + 8 * 5 - 3);
    MoonRooms y = new MoonRooms();
    y.tenant(0);
    y.lease(0, 1);
    due.is("evicted at the quarter", y.nights(4), 1);
    due.is("purse", y.ofTenant(0, 3), 99999);
    due.is("lease", y.ofTenant(0, 2), 0);
    due.is("evicted still", y.nights(100), 1);
    due.is("it pays no more", y.ofTenant(0, 3), 99999);
    MoonRooms z = new MoonRooms();
    z.tenant(29);
    due.is("a widower of none owes m", z.nights(4), 1);
    due.is("purse", z.ofTenant(0, 3), 99991);
    MoonRooms w = new MoonRooms();
    w.tenant(0);
    due.is("0 is not below 0", w.nights(4), 0);
  }

  private static void quarterNights() {
    MoonRooms x = new MoonRooms();
    x.tenant(50);
    x.lease(0, 1);
    x.purse(0, 50);
    for (int night = 1; night <= 20; night++) {
      x.nights(1);
      due.is("purse in night " + night, x.ofTenant(0, 3), 100050 - night / 4);
    }
    MoonRooms y = Worlds.at(9995);
    y.tenant(50);
    y.lease(0, 1);
    y.purse(0, 50);
    y.nights(1);
    due.is("9996 is a quarter", y.ofTenant(0, 3), 100049);
    y.nights(3);
    due.is("9999 isn't", y.ofTenant(0, 3), 100049);
    MoonRooms z = new MoonRooms();
    z.tenant(0);
    z.tenant(0);
    z.purse(0, -1);
    z.purse(1, -6);
    z.lease(0, 1 << 7);
    z.lease(1, 1 << 7);
    Due.text(z, 1, "0");
    due.is("below 0 ahead of the quarter", z.nights(1), 0);
    due.is("what is earned in the quarter's night counts", z.nights(3), 0);
    due.is("-1 and 15", z.ofTenant(0, 3), 100014);
    due.is("-6 and 15", z.ofTenant(1, 3), 100009);
    MoonRooms w = new MoonRooms();
    w.tenant(50);
    w.tenant(50);
    w.tenant(50);
    w.purse(0, -1);
    w.purse(1, 0);
    w.purse(2, 1);
    due.is("below 0, not 0", w.nights(4), 1);
    due.is("-1 is", w.ofTenant(0, 4), 1);
    due.is("0 isn't", w.ofTenant(1, 4), 0);
    due.is("1 isn't", w.ofTenant(2, 4), 0);
  }

  private static void stayingOut() {
    MoonRooms x = new MoonRooms();
    x.tenant(29);
    x.tenant(0);
    x.lease(0, 1);
    due.is("evicted", x.nights(4), 1);
    due.is("owes m and the rent", x.ofTenant(0, 3), 99990);
    due.is("its lease is none", x.ofTenant(0, 2), 0);
    due.is("later", x.nights(8), 1);
    due.is("one evicted owes m no more", x.ofTenant(0, 3), 99990);
    due.is("a purse that it gets", x.purse(0, 500), 99990);
    due.is("doesn't bring it back", x.nights(8), 1);
    due.is("and stays", x.ofTenant(0, 3), 100500);
    due.is("become", x.become(0, 0), 2);
    due.is("doesn't bring it back", x.ofTenant(0, 4), 1);
  }

  private static void oneByOne() {
    MoonRooms x = new MoonRooms();
    Due.text(x, 1, "q*10");
    x.tenant(0);
    x.tenant(0);
    x.lease(0, 1);
    x.lease(1, 1);
    x.purse(0, 5);
    x.purse(1, 15);
    due.is("the second owes as all is then", x.nights(4), 1);
    due.is("first", x.ofTenant(0, 3), 99985);
    due.is("second", x.ofTenant(1, 3), 100005);
  }

  private static void byNumbers() {
    MoonRooms x = new MoonRooms();
    Due.text(x, 1, "q*10");
    for (int i = 0; i < 3; i++) {
      x.tenant(0);
      x.lease(i, 1);
    }
    x.purse(0, 30);
    x.purse(1, 29);
    x.purse(2, 29);
    due.is("only the second is evicted", x.nights(4), 1);
    due.is("the first owed as three held it", x.ofTenant(0, 3), 100000);
    due.is("the second, too", x.ofTenant(1, 3), 99999);
    due.is("the third as two did", x.ofTenant(2, 3), 100009);
    MoonRooms y = new MoonRooms();
    Due.text(y, 1, "60");
    for (int i = 0; i < 3; i++) {
      y.tenant(i == 1 ? 0 : 40);
      y.lease(i, 1);
      y.purse(i, i == 1 ? 59 : 100);
    }
    due.is("the one between is evicted", y.nights(4), 1);
    due.is("a sharer with two others", y.ofTenant(0, 3), 100090);
    due.is("a sharer with one left", y.ofTenant(2, 3), 100085);
  }

  private static int purseBy(int km, int purse, int lease, String rent, int night) {
    MoonRooms x = Worlds.at(night);
    Due.text(x, 1, rent);
    x.tenant(km);
    x.lease(0, lease);
    x.purse(0, purse);
    x.nights(1);
    return x.ofTenant(0, 3) - 100000;
  }

  private static void held() {
    due.is("9994 and 5", purseBy(0, 9994, 128, "0", 1), 9999);
    due.is("9995 and 5", purseBy(0, 9995, 128, "0", 1), 9999);
    due.is("9999 and 5", purseBy(0, 9999, 128, "0", 1), 9999);
    due.is("9990 and 9", purseBy(19, 9990, 128, "0", 1), 9999);
    due.is("9991 and 9", purseBy(19, 9991, 128, "0", 1), 9999);
    due.is("9989 and 9", purseBy(19, 9989, 128, "0", 1), 9998);
    due.is("9999 and 48", purseBy(30, 9999, 0xFFFFFF, "0", 8), 9999);
    due.is("9999 and 5, less 9", purseBy(0, 9999, 128, "9", 3), 9990);
    due.is("9993 and 5, less 9", purseBy(0, 9993, 128, "9", 3), 9989);
    due.is("-9999 less 0", purseBy(50, -9999, 1, "0", 3), -9999);
    due.is("-9998 less 1", purseBy(50, -9998, 1, "1", 3), -9999);
    due.is("-9998 less 2", purseBy(50, -9998, 1, "2", 3), -9999);
    due.is("-9999 less 2376", purseBy(50, -9999, 0xFFFFFF, "99", 3), -9999);
    due.is("-9997 less 1", purseBy(50, -9997, 1, "1", 3), -9998);
    due.is("-9999 and 5", purseBy(0, -9999, 128, "1", 1), -9994);
  }

  private static void limits() {
    MoonRooms x = new MoonRooms();
    Due.text(x, 1, "1");
    x.tenant(0);
    x.lease(0, 128);
    x.purse(0, 9998);
    x.nights(2);
    due.is("held at 9999", x.ofTenant(0, 3), 109999);
    x.nights(2);
    due.is("owed from 9999", x.ofTenant(0, 3), 109998);
    x.purse(0, -9990);
    x.lease(0, 16777215);
    Due.text(x, 1, "99");
    x.nights(4);
    due.is("-9999 at least", x.ofTenant(0, 3), 90001);
  }

  private static void bounds() {
    MoonRooms x = new MoonRooms();
    due.is("nights(0)", x.nights(0), Due.BEYOND);
    due.is("nights(101)", x.nights(101), Due.BEYOND);
    for (int i = 0; i < 99; i++) {
      x.nights(100);
    }
    due.is("night", x.count(1), 9900);
    due.is("phase", x.count(2), 9900 % 16);
    due.is("nights(100)", x.nights(100), Due.STATE);
    due.is("nights(101)", x.nights(101), Due.BEYOND);
    due.is("nights(98)", x.nights(98), 0);
    x.image();
    due.is("loose(2)", x.loose(2), Due.STATE);
    due.is("loose(1)", x.loose(1), 0);
    due.is("night", x.count(1), 9999);
    x.restore();
    due.is("nights(2)", x.nights(2), Due.STATE);
    due.is("nights(1)", x.nights(1), 0);
    due.is("night", x.count(1), 9999);
    due.is("nights(1)", x.nights(1), Due.STATE);
    due.is("loose(1)", x.loose(1), Due.STATE);
    due.is("loose(0)", x.loose(0), Due.BEYOND);
    due.is("z", x.count(10), 1);
    x.tenant(0);
    x.lease(0, 16777215);
    due.is("thought goes beyond", x.then(100, 0, 0), 99969);
    due.is("stays", x.stays(0), 1);
    due.is("whole", x.whole(0), (8 - 9999 % 16 + 16) % 16);
    due.is("often", x.often(0, 100), 93);
  }

  private static void looseEdges() {
    for (int seed : new int[] {0, -1, Integer.MIN_VALUE, Integer.MAX_VALUE, 0x7FFFFF00, -256}) {
      MoonRooms x = new MoonRooms();
      x.tenant(50);
      x.tenant(50);
      Due.text(x, 1, "0");
      x.seed(seed);
      due.is("loose(1)", x.loose(1), 0);
      z = seed;
      int weather = draw() % 10;
      int who = draw() % 2;
      int cell = draw() % 24;
      due.is("z goes round from " + seed, x.count(10), z);
      due.is("WEATHER from " + seed, x.count(3), weather);
      due.is("the LEASE from " + seed, x.ofTenant(who, 2), 1 << cell);
      due.is("the other's from " + seed, x.ofTenant(1 - who, 2), 0);
    }
    weatherOfTheNight();
    onlyOneAndGone();
  }

  private static void weatherOfTheNight() {
    for (int v = 0; v <= 9; v++) {
      int seed = seedOf(v);
      MoonRooms x = Worlds.at(8);
      x.tenant(0);
      x.lease(0, 0xFFFFFF);
      Due.text(x, 0, "w=" + v);
      x.weather((v + 1) % 10);
      x.seed(seed);
      x.loose(1);
      due.is("clouds by the weather " + v + " that is drawn", x.ofTenant(0, 3), 100000);
      MoonRooms y = Worlds.at(8);
      y.tenant(0);
      Due.text(y, 0, "w<" + v + "|w>" + v);
      y.weather((v + 1) % 10);
      y.seed(seed);
      y.loose(1);
      due.is("it sees what it takes, by " + v, y.ofTenant(0, 3), 100005);
    }
  }

  /** Some z from which this weather is drawn. */
  private static int seedOf(int weather) {
    for (int seed = 0; seed < 1000; seed++) {
      z = seed;
      if (draw() % 10 == weather) {
        return seed;
      }
    }
    return 0;
  }

  private static void onlyOneAndGone() {
    MoonRooms x = new MoonRooms();
    x.tenant(50);
    x.purse(0, -1);
    x.nights(4);
    due.is("loose(2)", x.loose(2), 1);
    due.is("one evicted takes nothing", x.ofTenant(0, 2), 0);
    z = 1;
    for (int i = 0; i < 6; i++) {
      draw();
    }
    due.is("the draws are made for it, too", x.count(10), z);
    MoonRooms y = new MoonRooms();
    y.tenant(50);
    y.lease(0, 0xFFFFFF);
    y.loose(1);
    due.is("a CELL that it has stays", y.ofTenant(0, 2), 0xFFFFFF);
  }

  private static int z;

  private static int draw() {
    z = z * 1103515245 + 12345;
    return z >>> 8;
  }

  private static void loose() {
    MoonRooms x = new MoonRooms();
    due.is("loose(41)", x.loose(41), Due.BEYOND);
    due.is("loose(2)", x.loose(2), 0);
    z = 1;
    draw();
    int weather = draw() % 10;
    due.is("without tenants one draw a night", x.count(10), z);
    due.is("weather", x.count(3), weather);
    due.is("night", x.count(1), 2);
    x.tenant(50);
    x.loose(1);
    draw();
    draw();
    due.is("with one it takes a cell", x.ofTenant(0, 2), 1 << draw() % 24);
    due.is("by three draws a night", x.count(10), z);
    MoonRooms y = new MoonRooms();
    for (int i = 0; i < 3; i++) {
      y.tenant(50);
    }
    y.purse(1, -1);
    y.nights(4);
    Due.text(y, 1, "0");
    y.seed(77);
    due.is("loose(40)", y.loose(40), 1);
    int[] leases = new int[3];
    z = 77;
    for (int i = 0; i < 40; i++) {
      draw();
      int who = draw() % 3;
      int cell = draw() % 24;
      leases[who] |= who == 1 ? 0 : 1 << cell;
    }
    for (int i = 0; i < 3; i++) {
      due.is("lease of " + i, y.ofTenant(i, 2), leases[i]);
    }
    due.is("z", y.count(10), z);
  }
}
