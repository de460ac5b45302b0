import java.util.ArrayList;
import java.util.List;

/** Objects in states that tests start from, and all that can be asked of an object, as a list. */
final class Worlds {
  private Worlds() {
  }

  /** Something of everything: tenants of several kinds, one of them EVICTED, texts, a tape, numbers that
      wait, sheets of all bits (sheet 3 is missing), a trace, an image of another night. */
  static MoonRooms full() {
    MoonRooms x = new MoonRooms();
    for (int km : new int[] {4, 12, 43, 58}) {
      x.tenant(km);
    }
    x.lease(0, 0x0180C0);
    x.lease(1, 0x008001);
    x.lease(2, 0x800080);
    x.lease(3, 0xFF00);
    for (int i = 0; i < 3; i++) {
      x.purse(i, 70 + 10 * i);
    }
    Due.text(x, 0, "w=8");
    Due.text(x, 1, "3*r+c+q");
    x.image();
    x.nights(5);
    x.weather(3);
    x.seed(77);
    Due.feed(x, "n+w");
    x.tell(15);
    x.tell(6);
    Due.sheet(x, 0, 8, 1, 0, 1);
    Due.sheet(x, 1, 16, 300, 7, 0x7FFF, 2);
    Due.sheet(x, 2, 32, 3, 3, 0xFF0000, 5);
    x.voice(2, 3, 9);
    return x;
  }

  /** Six TENANTS, of whom none holds or owes anything. */
  static MoonRooms six() {
    MoonRooms x = new MoonRooms();
    for (int i = 0; i < 6; i++) {
      x.tenant(10 * i);
    }
    return x;
  }

  /** A night, reached with nobody there. */
  static MoonRooms at(int night) {
    MoonRooms x = new MoonRooms();
    for (int left = night; left > 0; left -= 100) {
      x.nights(Math.min(left, 100));
    }
    return x;
  }

  static int[] told(MoonRooms x) {
    int[] told = new int[6];
    for (int k = 1; k <= 5; k++) {
      told[k] = x.told(k);
    }
    return told;
  }

  /** All that an object answers but told(); what it holds is used up by that. */
  static List<Integer> all(MoonRooms x) {
    List<Integer> all = new ArrayList<>();
    plain(x, all);
    for (int i = 0; i <= 13; i++) {
      all.add(x.trace(i));
    }
    all.add(x.check());
    all.add(x.text(0));
    plain(x, all);
    sheets(x, all);
    all.add(x.restore());
    plain(x, all);
    all.add(x.check());
    all.add(x.text(0));
    all.add(x.law(0, 5, 6, 7));
    all.add(x.image());
    return all;
  }

  private static void plain(MoonRooms x, List<Integer> all) {
    for (int what = 0; what <= 10; what++) {
      all.add(x.count(what));
    }
    for (int i = 0; i < x.count(0); i++) {
      for (int what = 0; what <= 7; what++) {
        all.add(x.ofTenant(i, what));
      }
    }
    all.add(x.law(0, 5, 6, 7));
    all.add(x.law(0, 1, 8, 0));
    all.add(x.law(1, 2, 5, 4));
  }

  /** Every number of every sheet, brought to one that is as wide and made a lease. */
  private static void sheets(MoonRooms x, List<Integer> all) {
    x.tenant(0);
    x.pardon(0);
    for (int sheet = 3; sheet >= 0; sheet--) {
      int other = sheet == 3 ? 0 : 3;
      if (sheet == 3) {
        all.add(x.put(3, 0, 1));
        all.add(x.put(3, 39, 1));
        continue;
      }
      for (int bits = 8; bits <= 32; bits *= 2) {
        x.sheet(other, bits, 1);
        for (int i = 0; i <= 4; i++) {
          all.add(x.move(sheet, i, other, 0, 1));
          all.add(x.leases(other));
          all.add(x.ofTenant(0, 2));
        }
      }
    }
  }
}
