/** Promises 12 to 14: the tape, texts, laws. */
public final class TextsTest {
  private static final Due due = new Due("TextsTest");

  public static void main(String[] args) {
    tape();
    values();
    faults();
    rents();
    staying();
    due.end();
  }

  private static void tape() {
    MoonRooms x = new MoonRooms();
    due.is("feed of 0", x.feed(0x31, 0), Due.BEYOND);
    due.is("feed of 9", x.feed(0x31, 9), Due.BEYOND);
    due.is("feed of 1", x.feed(0x3231, 1), 1);
    due.is("feed of 2", x.feed(0x99332B, 2), 3);
    due.is("text 1+3", x.text(0), 1);
    due.is("law", x.law(0, 0, 0, 0), 4);
    due.is("the tape is empty", x.count(7), 0);
    for (int i = 1; i <= 6; i++) {
      due.is("feed of 8", x.feed(0x3131313131313131L, 8), 8 * i);
    }
    due.is("feed of 3", x.feed(0, 3), Due.FULL);
    due.is("no byte came", x.count(7), 48);
    due.is("feed of 2", x.feed(0, 2), 50);
    due.is("feed of 1", x.feed(0, 1), Due.FULL);
    due.is("text of no use", x.text(2), Due.BEYOND);
    due.is("text of use -1", x.text(-1), Due.BEYOND);
    due.is("the tape stays", x.count(7), 50);
    due.is("a number too long", x.text(0), -14);
    due.is("the tape is empty", x.count(7), 0);
  }

  private static void value(String text, int want) {
    MoonRooms x = new MoonRooms();
    due.is(text, Due.text(x, 0, text), 1);
    due.is(text + " by 7, 3, 0", x.law(0, 7, 3, 0), want);
  }

  private static void values() {
    value("0", 0);
    value("9999", 9999);
    value("0007", 7);
    value("n*10+p-w", 73);
    value("1-2-3", -4);
    value("2+3*4", 14);
    value("(2+3)*4", 20);
    value("17/5/2", 1);
    value("(0-17)/5", -3);
    value("(0-17)%5", -2);
    value("5/0", 0);
    value("5%0", 0);
    value("n/w+n%w", 0);
    value("9999*9999*9999", (int) (9999L * 9999 * 9999));
    value("2|0", 1);
    value("0|w", 0);
    value("0|0|5", 1);
    value("2&3", 1);
    value("2&0", 0);
    value("1|0&0", 1);
    value("1<2", 1);
    value("2<2", 0);
    value("2=2", 1);
    value("3=2", 0);
    value("3>2", 1);
    value("2>2", 0);
    value("1+1<1*3&n>p", 1);
    value("!0", 1);
    value("!7", 0);
    value("!!7", 1);
    value("!!!!!0", 1);
    value("(((((n)))))", 7);
    value("!(n=7)+5", 5);
    value("!n+!w", 1);
    value("(!(!w))", 0);
    // the least int, by -1, and what is left of it
    value("(8192*8192*32)/(0-1)", Integer.MIN_VALUE);
    value("(8192*8192*32)%(0-1)", 0);
    value("!1+!1+!1+!1+!1+!1+!0", 1);
    value("(1)+(1)+(1)+(1)+(1)+(1)", 6);
  }

  private static void fault(int use, String text, int want) {
    MoonRooms x = new MoonRooms();
    due.is("fault of " + text, Due.text(x, use, text), -10 - want);
    due.is("nothing stays", x.law(use, 0, 7, 0), use == 0 ? 0 : 2);
  }

  private static void faults() {
    fault(0, "", 0);
    fault(0, " 1", 0);
    fault(0, "1 ", 1);
    fault(0, "12345", 4);
    fault(0, "00000", 4);
    fault(0, "1<2<3", 3);
    fault(0, "1=2>3", 3);
    fault(0, "1<", 2);
    fault(0, "1+*2", 2);
    fault(0, "-1", 0);
    fault(0, "n1", 1);
    fault(0, "1n", 1);
    fault(0, "r", 0);
    fault(0, "1+q", 2);
    fault(1, "n", 0);
    fault(1, "c+p", 2);
    fault(0, "()", 1);
    fault(0, "(1", 2);
    fault(0, "(1))", 3);
    fault(0, "1)", 1);
    fault(0, "!", 1);
    fault(0, "!)", 1);
    fault(0, "1!", 1);
    fault(0, "1||2", 2);
    fault(0, "((((((1))))))", 5);
    fault(0, "!!!!!!1", 5);
    fault(0, "!(!(!(1)))", 5);
    fault(0, "(!(!(1", 6);
    fault(0, "(((((", 5);
    fault(0, "1\u00ff", 1);
    fault(0, "\u00b1", 0);
  }

  private static void rents() {
    MoonRooms x = new MoonRooms();
    due.is("without a text", x.law(1, 0, 8, 0), 3);
    due.is("held without a text", x.law(1, 0, 1000, 0), 99);
    due.is("held without a text", x.law(1, 0, -9, 0), 0);
    due.is("text", Due.text(x, 1, "r*100+c*10+q"), 1);
    due.is("law", x.law(1, 0, 4, 2), 42);
    due.is("law", x.law(1, 1, 0, 0), 99);
    due.is("law", x.law(1, 0, 0, -1), 0);
    due.is("law of no use", x.law(2, 0, 0, 0), Due.BEYOND);
    due.is("law of use -1", x.law(-1, 0, 0, 0), Due.BEYOND);
    Due.text(x, 0, "n+p*0");
    due.is("any number", x.law(0, Due.BEYOND, 0, 0), Due.BEYOND);
    due.is("which is no error", x.told(1), 2);
  }

  private static void staying() {
    MoonRooms x = new MoonRooms();
    Due.text(x, 0, "8");
    due.is("a fault", Due.text(x, 0, "9+"), -12);
    due.is("the one ahead stays", x.law(0, 0, 0, 0), 8);
    due.is("a fault is no error", x.told(1) + x.told(2) + x.told(3) + x.told(4) + x.told(5), 0);
    due.is("the other use has none", x.law(1, 0, 0, 0), 1);
    due.is("in place of one ahead", Due.text(x, 0, "n"), 1);
    due.is("law", x.law(0, 6, 0, 0), 6);
  }
}
