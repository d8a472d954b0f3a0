/** Promise 18: fault. */
public final class Promise18Fault {
  private static final String[] WHOLE = {
    "r0", "r9", "r10", "r191", "r100", "r99", "w0=0", "w191=255", "w19=25", "w1=200", "w1=249", "w1=100",
    "r0;r0", "w5=5;r5", "r5;w5=5", "r1;r2;r3;w4=4;w5=5;r6", "w10=10;w20=20", "r190;w0=0;r0",
  };
  // The text, and a mark ahead of the character that is the fault.
  private static final String[] FAULTY = {
    "^", "^x", "^;", "^0", "^=", "^W1=1", "^R1", "w^", "r^", "r^;", "r^x", "r^r", "w^=", "w^;",
    "r0^0", "r0^1", "w0^0=1", "w1=0^0", "w1=0^1", "r192^".replace("2^", "^2"), "r20^0", "r19^9", "r1^=", "r1^=2",
    "r191^0", "w19^2=1", "w1910".replace("0", "^0"), "w1=25^6", "w1=26^0", "w1=30^0", "w1=255^0", "w1=99^9",
    "w1^", "w1^;", "w1^x", "w1^r", "w191^", "w1=^", "w1=^;", "w1=^=", "w1=^w", "w1=^-1", "w1=2^=", "w1=2^w", "w1=2^x",
    "r1;^", "r1;^;", "w1=1;^", "w1=1;^1", "r1^,r2", "r^-1", "w1=1;r^", "w1=1;r2;w3^", "w1=1;r2;w3=^", "r1;w2=3;r0^0;x",
    "r^/", "r^:", "w^/", "w1=^/", "w1=^:", "w1=1^/", "w1=1^:", "r1^/", "r1^:", "r1^<", "^v1", "^q", "^s", "w1^>",
  };

  public static void main(String[] args) {
    Due due = new Due();
    for (String text : WHOLE) due.is("fault() of " + text, faultOf(text), GrooveTurns.NONE);
    for (String text : FAULTY) {
      due.is("fault() of " + text, faultOf(text.replace("^", "")), text.indexOf('^'));
    }
    allNumbers(due);
    aLongText(due);
    GrooveTurns x = new GrooveTurns();
    x.write(3, 3);
    Due.type(x, "r3;");
    String before = Due.look(x);
    due.is("fault()", x.fault(), 3);
    due.same("behind fault()", Due.look(x), before);
    due.end();
  }

  private static int faultOf(String text) {
    GrooveTurns x = new GrooveTurns();
    Due.type(x, text);
    return x.fault();
  }

  private static void allNumbers(Due due) {
    for (int number = 0; number < 300; number++) {
      int digits = String.valueOf(number).length();
      due.is("fault() of r" + number, faultOf("r" + number), number < 192 ? GrooveTurns.NONE : digits);
      due.is("fault() of w7=" + number, faultOf("w7=" + number), number < 256 ? GrooveTurns.NONE : 2 + digits);
    }
  }

  private static void aLongText(Due due) {
    String text = "r1;r2;r3;r4;r5;r6;r7;r8;r9;r0;r1;r2;r3;r4;r5;r6;r7;r8;r9;r11";
    due.is("fault() of 60 characters", faultOf(text), GrooveTurns.NONE);
    due.is("fault() of 59 characters", faultOf(text.substring(0, 59)), GrooveTurns.NONE);
    due.is("fault() of 58 characters", faultOf(text.substring(0, 58)), 58);
    due.is("fault() of 60 characters", faultOf(text.substring(0, 59) + ";"), 60);
    due.is("fault() of 60 characters", faultOf(text.substring(0, 59) + "x"), 59);
  }
}
