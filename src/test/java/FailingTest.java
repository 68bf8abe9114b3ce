import java.util.List;

/** The sentences of "Failing, following", and of the promises 15 to 18, 21, 22, 27 to 29 and 31, that name an edge. */
public final class FailingTest extends Checks {
  private static final int[] EIGHT = {0, 4, 8, 12, 16, 20, 24, 28};
  /** Says 1, 2, 3 and so on, one number in three ticks, the first in the third. */
  private static final int[] COUNTS = {SET, 1, 1, ADD, 0, 1, OUT, 0, 0, JUMP, 1, 1};

  public static void main(String[] args) {
    sentence("What a guest says goes out at once; but if it is followed, it is held, until the next step.", FailingTest::held);
    sentence("A step of a guest that is followed keeps its state for the other host, and lets what is held go out.", FailingTest::steps);
    sentence("To follow a guest makes a step at once, also if it is followed already", FailingTest::followsAgain);
    sentence("to follow it no more lets what is held go out", FailingTest::followsNoMore);
    sentence("its guests that are followed are on the other one from then on, if that has not failed", FailingTest::goesOn);
    sentence("with the state of the last step (as if it was restored there)", FailingTest::stateOfStep);
    sentence("and what is held is dropped", FailingTest::dropped);
    sentence("they are followed no more (also those that were DEAD)", FailingTest::deadAndFollowed);
    sentence("All others on it are DEAD, their pages bare; they are followed no more, and what is held is dropped, too.", FailingTest::others);
    sentence("The inputs of a guest that goes on are those of the step, and behind them all that came since, however many that are.", FailingTest::inputs);
    sentence("All moves that were begun are over.", FailingTest::movesAreOver);
    sentence("A host that failed has no pages in its frames; it can be mended.", FailingTest::noPages);
    sentence("What the outside has got of a guest is what went out; it is never taken back.", FailingTest::neverTakenBack);
    sentence("Returns how many guests go on upon the other one.", FailingTest::howMany);
    sentence("Throws `IllegalStateException` if it has failed", FailingTest::failRefused);
    sentence("Throws `IllegalStateException` if it has not failed", FailingTest::mendRefused);
    sentence("Throws `IllegalStateException` if there are 5, or the host has failed", FailingTest::noGuestThere);
    sentence("Follows a guest, or no more.", FailingTest::follow);
    sentence("Returns how many numbers go out by that.", FailingTest::stepRefused);
    sentence("Returns how many numbers of a guest went out.", FailingTest::out);
    sentence("Returns how many numbers of a guest are held.", FailingTest::heldOf);
    sentence("Returns the number; NONE for a sealed guest.", FailingTest::sealedRegister);
    sentence("Returns the word; NONE for a sealed guest.", FailingTest::sealedWord);
    sentence("Returns whether it does; true for one that is DEAD by the failing of a host.", FailingTest::asPlain);
    report();
  }

  private static Hall counting() {
    Hall x = new Hall();
    make(x, COUNTS);
    return x;
  }

  private static void moveOver(Hall x, int guest) {
    x.move(guest);
    x.land(guest, true);
  }

  static void held() {
    Hall x = counting();
    x.tick(2);
    same("[]", said(x, 0), "ahead of it");
    x.tick(1);
    same("[1]", said(x, 0), "at once");
    x.tick(3);
    same("[1, 2]", said(x, 0), "at once");
    x.tick(3);
    same("[1, 2, 3]", said(x, 0), "at once");
    x.follow(0, true);
    due(0, x.held(0), "held at first");
    x.tick(3);
    same("[1, 2, 3]", said(x, 0), "followed");
    due(1, x.held(0), "held");
    x.tick(6);
    due(3, x.held(0), "held");
    due(3, x.step(0), "step");
    same("[1, 2, 3, 4, 5, 6]", said(x, 0), "behind the step");
    due(0, x.held(0), "held");
    // What goes to the timer is not said, and not held.
    Hall y = new Hall();
    make(y, SET, 0, 5, OUT, 0, 1, OUT, 0, 0);
    y.follow(0, true);
    y.tick(2);
    due(0, y.held(0), "held");
    y.tick(1);
    due(1, y.held(0), "held");
    due(2, y.exits(0, TOLD), "TOLD, though it is held");
  }

  static void steps() {
    Hall x = counting();
    x.follow(0, true);
    x.tick(3);
    due(1, x.step(0), "step");
    due(0, x.step(0), "step where nothing is held");
    x.tick(6);
    x.step(0);
    x.tick(7);
    x.fail(0);
    dueOf(x, 0, "as at the last step", List.of(of(NEXT, 3), of(CLOCK, 9), of(HOST, 1)));
    due(3, x.register(0, 0), "as at the last step");
    x.tick(3);
    same("[1, 2, 3, 4]", said(x, 0), "it goes on from there");
    yes(x.isAsPlain(0), "isAsPlain");
  }

  static void followsAgain() {
    Hall x = counting();
    x.follow(0, true);
    x.tick(7);
    due(2, x.held(0), "held");
    yes(x.follow(0, true), "follow, again");
    due(0, x.held(0), "held");
    due(2, x.out(0), "out");
    x.tick(4);
    x.fail(0);
    dueOf(x, 0, "as at the step that it made", List.of(of(NEXT, 1), of(CLOCK, 7)));
    // Without a step of its own, the one at the beginning counts; one that follows another following counts anew.
    Hall y = counting();
    y.tick(2);
    y.follow(0, true);
    y.follow(0, false);
    y.tick(3);
    no(y.follow(0, true), "follow");
    y.tick(4);
    y.fail(0);
    dueOf(y, 0, "as at the step that it made", List.of(of(NEXT, 2), of(CLOCK, 5)));
  }

  static void followsNoMore() {
    Hall x = counting();
    no(x.follow(0, false), "follow no more, at first");
    x.follow(0, true);
    x.tick(9);
    due(3, x.held(0), "held");
    yes(x.follow(0, false), "follow no more");
    due(0, x.held(0), "held");
    same("[1, 2, 3]", said(x, 0), "out");
    no(x.follow(0, false), "follow no more, again");
    x.tick(3);
    due(4, x.out(0), "out at once");
    refused(x, STATE, () -> x.step(0), "step");
    due(0, x.fail(0), "fail");
    due(DEAD, x.of(0, HOW), "it does not go on");
  }

  static void goesOn() {
    Hall x = new Hall();
    for (int guest = 0; guest < 4; guest++) make(x, guest % 2, 1, false, COUNTS);
    x.follow(0, true);
    x.follow(1, true);
    x.tick(4);
    due(1, x.fail(0), "fail");
    int[] hosts = {1, 1, 0, 1}, how = {READY, READY, DEAD, READY};
    for (int guest = 0; guest < 4; guest++) {
      due(hosts[guest], x.of(guest, HOST), "the host of " + guest);
      due(how[guest], x.of(guest, HOW), "how " + guest + " is");
    }
    x.tick(6);
    due(4, x.of(0, RAN), "ticks run of the one that goes on: it has its turns there");
    due(0, x.fail(1), "fail of the other one, where the first has failed");
    for (int guest = 0; guest < 4; guest++) due(DEAD, x.of(guest, HOW), "how " + guest + " is");
    // It goes on where the other host is mended ahead of that, with the step that was made while it had failed.
    for (boolean isMended : new boolean[] {true, false}) {
      Hall y = new Hall();
      make(y, COUNTS);
      y.fail(1);
      y.follow(0, true);
      y.tick(4);
      if (isMended) y.mend(1);
      due(isMended ? 1 : 0, y.fail(0), "fail, where the other was mended: " + isMended);
      due(isMended ? READY : DEAD, y.of(0, HOW), "how");
      due(isMended ? 1 : 0, y.of(0, HOST), "its host");
      due(isMended ? 0 : 4, y.of(0, CLOCK), "its clock");
    }
    // There and back again.
    Hall z = counting();
    for (int i = 0; i < 4; i++) {
      no(z.follow(0, true), "followed no more");
      due(1, z.fail(i % 2), "fail");
      due(1 - i % 2, z.of(0, HOST), "its host");
      z.mend(i % 2);
      z.tick(1);
    }
    due(4, z.of(0, RAN), "ticks run");
  }

  static void stateOfStep() {
    Hall x = new Hall();
    worker(x);
    worker(x);
    write(x, 0, 5, 0, 4);
    write(x, 1, 5, 0);
    read(x, 0, 8);
    x.share(0);
    x.scale(0, 2);
    x.follow(0, true);
    int clock = x.of(0, CLOCK), ran = x.of(0, RAN);
    write(x, 0, 6, 0, 12);
    moveOver(x, 1);
    x.scale(0, 3);
    due(1, x.fail(0), "fail");
    pages(x, 0, "SSBBBBBB", "there");
    pages(x, 1, "SBBBBBBB", "of the other, which was there ahead");
    due(5, x.word(0, 0, 0), "a word");
    due(0, x.word(0, 3, 0), "a word");
    due(clock, x.of(0, CLOCK), "the clock");
    due(ran + 12, x.of(0, RAN), "ticks run are not taken back");
    x.tick(1);
    due(clock + 3, x.of(0, CLOCK), "the scale of now");
    yes(x.pause(0, false), "paused as it is now");
    refused(x, STATE, () -> x.instruct(0, ADD, 0, 0), "instruct");
    yes(x.isAsPlain(0), "isAsPlain");
    // One that was not run counts as restored.
    Hall y = new Hall();
    make(y, ADD, 0, 0);
    y.follow(0, true);
    y.fail(0);
    refused(y, STATE, () -> y.instruct(0, ADD, 0, 0), "instruct of one that goes on");
    timerOfStep();
  }

  static void timerOfStep() {
    Hall x = new Hall();
    make(x, HANDLE, 0, 5, SET, 0, 9, OUT, 0, 1, SET, 3, 1, JUMP, 3, 4, IN, 2, 2, OUT, 2, 0, BACK, 0, 0);
    x.tick(3);
    x.tick(4);
    x.follow(0, true);
    x.tick(30);
    due(1, x.exits(0, LET), "let in");
    x.fail(0);
    x.tick(4);
    due(1, x.exits(0, LET), "four of five ticks that were left are gone");
    x.tick(1);
    due(2, x.exits(0, LET), "let in again");
    x.tick(30);
    same("[2]", said(x, 0), "what went out");
    // What was pending is pending, and what was sent since is not.
    Hall y = new Hall();
    make(y, LOOP);
    y.send(0);
    make(y, LOOP);
    y.follow(0, true);
    y.follow(1, true);
    y.send(1);
    y.fail(0);
    yes(y.send(0), "what was pending");
    no(y.send(1), "what was sent since");
    // WAITING and STOPPED are kept as well.
    Hall z = new Hall();
    make(z, WAIT, 0, 0, STOP, 0, 0);
    make(z, STOP, 0, 0);
    z.tick(2);
    z.follow(0, true);
    z.follow(1, true);
    z.send(0);
    z.tick(1);
    due(STOPPED, z.of(0, HOW), "how");
    due(2, z.fail(0), "fail");
    dueOf(z, 0, "there", List.of(of(HOW, WAITING), of(NEXT, 1)));
    dueOf(z, 1, "there", List.of(of(HOW, STOPPED), of(NEXT, 1)));
  }

  static void dropped() {
    Hall x = counting();
    x.follow(0, true);
    x.tick(3);
    x.step(0);
    x.tick(6);
    due(2, x.held(0), "held");
    x.fail(0);
    due(0, x.held(0), "held");
    same("[1]", said(x, 0), "out");
    no(x.follow(0, false), "it is followed no more");
    same("[1]", said(x, 0), "out");
    x.tick(6);
    same("[1, 2, 3]", said(x, 0), "it says the rest once more, and that goes out at once");
    yes(x.isAsPlain(0), "isAsPlain");
  }

  static void deadAndFollowed() {
    // Its step was made ahead of the fault.
    Hall x = new Hall();
    make(x, OUT, 0, 0, SET, 0, 32, LOAD, 0, 0);
    x.follow(0, true);
    x.tick(3);
    due(DEAD, x.of(0, HOW), "how");
    due(1, x.held(0), "held");
    due(1, x.fail(0), "fail");
    dueOf(x, 0, "there", List.of(of(HOW, READY), of(NEXT, 0), of(HOST, 1)));
    due(0, x.out(0) + x.held(0), "out and held");
    refused(x, STATE, () -> x.step(0), "step, as it is followed no more");
    x.tick(3);
    due(DEAD, x.of(0, HOW), "by the same fault");
    due(1, x.out(0), "out");
    yes(x.isAsPlain(0), "isAsPlain");
    // One that is DEAD, followed, and cannot go on.
    Hall y = new Hall();
    make(y, OUT, 0, 0, SET, 0, 32, LOAD, 0, 0);
    y.follow(0, true);
    y.tick(3);
    y.fail(1);
    due(0, y.fail(0), "fail");
    due(DEAD, y.of(0, HOW), "how");
    due(0, y.out(0) + y.held(0), "out and held");
    refused(y, STATE, () -> y.step(0), "step, as it is followed no more");
    yes(y.isAsPlain(0), "isAsPlain");
  }

  static void others() {
    Hall x = new Hall();
    worker(x);
    worker(x);
    worker(x);
    worker(x, 1, false, 0);
    make(x, 0, 1, true, STOP, 0, 0);
    write(x, 0, 5, EIGHT);
    write(x, 1, 6, EIGHT);
    write(x, 2, 7, 0, 4);
    write(x, 3, 8, 0);
    pages(x, 0, "SSHHHHHH", "ahead of it");
    due(STOPPED, x.of(4, HOW), "how");
    x.input(0, 3);
    due(0, x.fail(0), "fail");
    for (int guest : new int[] {0, 1, 2, 4}) {
      due(DEAD, x.of(guest, HOW), "how " + guest + " is");
      due(0, x.of(guest, HOST), "the host of " + guest);
      pages(x, guest, "BBBBBBBB", "that are gone");
      yes(x.isAsPlain(guest), "isAsPlain");
    }
    for (int i = 0; i < 32; i++) due(0, x.word(0, i / 4, i % 4), "a word");
    due(1, x.of(0, INPUTS), "its inputs stay");
    due(READY, x.of(3, HOW), "one on the other host");
    pages(x, 3, "HBBBBBBB", "on the other host");
    due(0, x.used(0), "used");
    due(1, x.used(1), "used there");
    // Those that are followed, when the other host has failed.
    Hall y = counting();
    y.fail(1);
    y.follow(0, true);
    y.tick(4);
    due(1, y.held(0), "held");
    due(0, y.fail(0), "fail");
    due(0, y.held(0), "held");
    due(0, y.out(0), "out");
    due(DEAD, y.of(0, HOW), "how");
    refused(y, STATE, () -> y.step(0), "step");
    refused(y, STATE, () -> y.follow(0, false) ? 1 : 0, "follow");
    y.mend(0);
    y.mend(1);
    due(DEAD, y.of(0, HOW), "how, when both are mended");
    due(0, y.fail(0), "fail");
    y.tick(5);
    due(4, y.of(0, RAN), "ticks run");
  }

  static void inputs() {
    Hall x = new Hall();
    make(x, SET, 3, 1, IN, 2, 0, OUT, 2, 0, JUMP, 3, 1);
    x.tick(1);
    for (int i = 0; i < 20; i++) x.input(0, i);
    x.follow(0, true);
    for (int round = 1; round <= 3; round++) {
      x.tick(60);
      due(0, x.of(0, INPUTS), "all are taken");
      for (int i = 0; i < 20; i++) due(i + 1, x.input(0, 100 * round + i), "input");
      refused(x, STATE, () -> x.input(0, 1), "a 21st input");
    }
    due(60, x.held(0), "held");
    due(1, x.fail(0), "fail");
    due(80, x.of(0, INPUTS), "those of the step, and all that came since");
    refused(x, STATE, () -> x.input(0, 1), "one more input");
    // It is followed with as many, and goes on with as many, and one more that came since.
    x.follow(0, true);
    x.mend(0);
    x.tick(90);
    x.tick(90);
    due(20, x.of(0, INPUTS), "inputs");
    refused(x, STATE, () -> x.input(0, 1), "a 21st input");
    x.tick(2);
    due(20, x.input(0, 999), "a 20th input");
    x.fail(1);
    due(81, x.of(0, INPUTS), "inputs");
    for (int i = 0; i < 3; i++) x.tick(82);
    for (int i = 0; i < 81; i++) due(i == 80 ? 999 : 100 * (i / 20) + i % 20, x.outAt(0, i), "the input " + i);
    due(0, x.of(0, INPUTS), "all are taken");
    yes(x.isAsPlain(0), "isAsPlain");
    inputsAtSteps();
  }

  static void inputsAtSteps() {
    // What came ahead of the last step is in the step, or was taken by then.
    Hall x = new Hall();
    make(x, IN, 0, 0, IN, 1, 0, IN, 2, 0, IN, 3, 0);
    x.follow(0, true);
    x.input(0, 1);
    x.input(0, 2);
    x.tick(1);
    x.step(0);
    x.input(0, 3);
    x.tick(1);
    x.fail(0);
    due(2, x.of(0, INPUTS), "inputs");
    due(1, x.register(0, 0), "the one that was taken ahead of the step");
    x.tick(3);
    int[] due = {1, 2, 3, 0};
    for (int i = 0; i < 4; i++) due(due[i], x.register(0, i), "the input " + i);
    yes(x.isAsPlain(0), "isAsPlain");
    // What came ahead of following, or between two followings, is not given twice.
    Hall y = new Hall();
    make(y, LOOP);
    y.input(0, 1);
    y.follow(0, true);
    y.input(0, 2);
    y.follow(0, false);
    y.input(0, 3);
    y.follow(0, true);
    y.input(0, 4);
    y.follow(0, true);
    y.input(0, 5);
    y.fail(0);
    due(5, y.of(0, INPUTS), "inputs");
    // Those of one that does not go on stay.
    Hall z = new Hall();
    make(z, LOOP);
    z.input(0, 1);
    z.fail(0);
    due(1, z.of(0, INPUTS), "inputs");
    due(2, z.input(0, 2), "input to one that is DEAD");
  }

  static void movesAreOver() {
    for (int host = 0; host < 2; host++) {
      Hall x = new Hall();
      for (int guest = 0; guest < 4; guest++) worker(x, guest / 2, false, 0);
      for (int guest = 0; guest < 4; guest++) {
        write(x, guest, 5, 0, 4);
        if (guest % 2 == 0) x.follow(guest, true);
        x.move(guest);
        x.round(guest, 1);
      }
      x.fail(host);
      for (int guest = 0; guest < 4; guest++) {
        int one = guest;
        due(-1, x.of(guest, TO_SEND), "to be sent");
        due(1, x.of(guest, SENT), "sent");
        refused(x, STATE, () -> x.land(one, true), "land");
        refused(x, STATE, () -> x.round(one, 1), "round");
      }
      int other = 2 * (1 - host);
      due(1 - host, x.of(other, HOST), "one of the other host stays there");
      pages(x, other, "HHBBBBBB", "that stay");
      x.mend(host);
      due(2, x.move(other), "move, from the beginning");
    }
  }

  static void noPages() {
    Hall x = new Hall();
    worker(x);
    worker(x);
    write(x, 0, 5, EIGHT);
    write(x, 1, 6, EIGHT);
    x.follow(0, true);
    due(16, x.used(0), "used");
    x.fail(0);
    due(0, x.used(0), "used");
    due(0, x.used(1), "used there");
    due(0, x.share(0), "share");
    x.mend(0);
    due(0, x.used(0), "used");
    worker(x);
    write(x, 2, 7, 0);
    due(0, x.frameOf(2, 0), "a frame of the host that was mended");
    read(x, 0, 28);
    due(0, x.frameOf(0, 7), "a frame of the other");
    moveOver(x, 0);
    due(0, x.of(0, HOST), "it moves to the host that was mended");
  }

  static void neverTakenBack() {
    Hall x = counting();
    x.tick(6);
    x.snapshot(0);
    x.tick(6);
    x.restore(0, 0);
    same("[1, 2, 3, 4]", said(x, 0), "behind restore");
    x.follow(0, true);
    x.tick(3);
    x.fail(0);
    same("[1, 2, 3, 4]", said(x, 0), "behind the failing of its host");
    x.tick(6);
    same("[1, 2, 3, 4, 3, 4]", said(x, 0), "what it says goes behind");
    x.fail(1);
    same("[1, 2, 3, 4, 3, 4]", said(x, 0), "when it is DEAD");
  }

  static void howMany() {
    Hall x = new Hall();
    for (int guest = 0; guest < 5; guest++) make(x, COUNTS);
    for (int guest = 0; guest < 5; guest++) x.follow(guest, true);
    due(0, x.fail(1), "fail of the one where none is");
    x.mend(1);
    x.follow(3, false);
    due(4, x.fail(0), "fail");
    for (int guest = 0; guest < 5; guest++) due(guest == 3 ? 0 : 1, x.of(guest, HOST), "the host of " + guest);
    due(0, new Hall().fail(0), "fail without guests");
  }

  static void failRefused() {
    Hall x = counting();
    refusedAll(x, BOUNDS, host -> () -> x.fail(host), "fail", outside(0, 1));
    x.fail(1);
    refused(x, STATE, () -> x.fail(1), "fail of one that has failed");
    refusedAll(x, BOUNDS, host -> () -> x.fail(host), "fail", outside(0, 1));
    x.fail(0);
    for (int host = 0; host < 2; host++) {
      int one = host;
      refused(x, STATE, () -> x.fail(one), "fail of one that has failed");
      x.mend(host);
      due(0, x.fail(host), "fail of one that was mended");
    }
  }

  private static Call mend(Hall x, int host) {
    return () -> {
      x.mend(host);
      return 0;
    };
  }

  static void mendRefused() {
    Hall x = counting();
    for (int host = 0; host < 2; host++) refused(x, STATE, mend(x, host), "mend of one that is whole");
    x.fail(1);
    refused(x, STATE, mend(x, 0), "mend of one that is whole");
    refusedAll(x, BOUNDS, host -> mend(x, host), "mend", outside(0, 1));
    x.mend(1);
    refused(x, STATE, mend(x, 1), "mend of one that was mended");
    due(0, x.fail(1), "fail of one that was mended");
  }

  static void noGuestThere() {
    for (int host = 0; host < 2; host++) {
      Hall x = new Hall();
      int one = host;
      x.fail(host);
      refused(x, STATE, () -> x.guest(one, 1, false), "guest on a host that has failed");
      refusedAll(x, ARGUMENT, weight -> () -> x.guest(one, weight, false), "guest on a host that has failed", outside(1, 4));
      refusedAll(x, BOUNDS, other -> () -> x.guest(other, 5, false), "guest", outside(0, 1));
      due(0, x.guest(1 - host, 1, false), "guest on the other");
      x.mend(host);
      due(1, x.guest(host, 1, false), "guest on one that was mended");
    }
  }

  static void follow() {
    Hall x = new Hall();
    make(x, COUNTS);
    make(x, SET, 0, 32, LOAD, 0, 0);
    no(x.follow(0, false), "no more, at first");
    no(x.follow(0, true), "follow");
    yes(x.follow(0, true), "again");
    yes(x.follow(0, false), "no more");
    no(x.follow(0, true), "once more");
    x.follow(1, true);
    x.tick(4);
    due(DEAD, x.of(1, HOW), "how");
    refused(x, STATE, () -> x.follow(1, true) ? 1 : 0, "follow of one that is DEAD");
    refused(x, STATE, () -> x.follow(1, false) ? 1 : 0, "follow no more of one that is DEAD");
    due(0, x.step(1), "its step, as it is followed");
    refusedAll(x, BOUNDS, guest -> () -> x.follow(guest, true) ? 1 : 0, "follow", outside(0, 1));
    // Those that are WAITING, STOPPED or paused can be followed.
    Hall y = new Hall();
    make(y, WAIT, 0, 0);
    make(y, STOP, 0, 0);
    y.tick(2);
    y.pause(0, true);
    for (int guest = 0; guest < 2; guest++) no(y.follow(guest, true), "follow");
    due(2, y.fail(0), "fail");
  }

  static void stepRefused() {
    Hall x = counting();
    refused(x, STATE, () -> x.step(0), "step of one that is not followed");
    refusedAll(x, BOUNDS, guest -> () -> x.step(guest), "step", outside(0, 0));
    x.follow(0, true);
    due(0, x.step(0), "step where nothing is held");
    x.tick(31);
    due(10, x.step(0), "step");
    x.tick(3);
    due(1, x.step(0), "step");
    x.tick(3);
    x.follow(0, false);
    refused(x, STATE, () -> x.step(0), "step of one that is followed no more");
    x.follow(0, true);
    x.fail(0);
    refused(x, STATE, () -> x.step(0), "step of one that goes on");
  }

  static void out() {
    Hall x = counting();
    make(x, 1, 1, true, COUNTS);
    due(0, x.out(0), "at first");
    refusedAll(x, BOUNDS, place -> () -> x.outAt(0, place), "outAt of none", Integer.MIN_VALUE, -1, 0, 1, Integer.MAX_VALUE);
    x.tick(3);
    due(1, x.out(0), "out");
    due(1, x.outAt(0, 0), "outAt");
    due(1, x.outAt(1, 0), "outAt of a sealed one");
    refusedAll(x, BOUNDS, place -> () -> x.outAt(0, place), "outAt of one", outside(0, 0));
    refusedAll(x, BOUNDS, guest -> () -> x.out(guest), "out", outside(0, 1));
    refusedAll(x, BOUNDS, guest -> () -> x.outAt(guest, 0), "outAt of no guest", outside(0, 1));
    x.follow(0, true);
    x.tick(6);
    refusedAll(x, BOUNDS, place -> () -> x.outAt(0, place), "outAt of what is held", 1, 2);
  }

  static void heldOf() {
    Hall x = counting();
    make(x, 1, 1, true, COUNTS);
    due(0, x.held(0), "at first");
    x.follow(1, true);
    x.tick(30);
    due(0, x.held(0), "of one that is not followed");
    due(10, x.held(1), "of a sealed one that is");
    refusedAll(x, BOUNDS, guest -> () -> x.held(guest), "held", outside(0, 1));
    for (int i = 0; i < 4; i++) x.tick(100);
    due(143, x.held(1), "of one that is held for long");
    due(143, x.step(1), "step");
    for (int i = 0; i < 143; i++) due(i + 1, x.outAt(1, i), "the number " + i);
  }

  static void sealedRegister() {
    Hall x = new Hall();
    make(x, 0, 1, false, SET, 0, 9999, STOP, 0, 0);
    make(x, 0, 1, true, SET, 0, 9999, STOP, 0, 0);
    for (int i = 0; i < 4; i++) due(-1, x.register(1, i), "a register of a sealed one, at first");
    x.tick(4);
    due(9999, x.register(0, 0), "a register of one that is not");
    for (int i = 0; i < 4; i++) due(-1, x.register(1, i), "a register of a sealed one");
    for (int guest = 0; guest < 2; guest++) {
      int one = guest;
      refusedAll(x, BOUNDS, register -> () -> x.register(one, register), "register", outside(0, 3));
    }
    refusedAll(x, BOUNDS, guest -> () -> x.register(guest, 0), "register of no guest", outside(0, 1));
    x.snapshot(1);
    x.follow(1, true);
    x.fail(0);
    for (int i = 0; i < 4; i++) due(-1, x.register(1, i), "a register of a sealed one that goes on");
    yes(x.isAsPlain(1), "isAsPlain");
  }

  static void sealedWord() {
    Hall x = new Hall();
    worker(x, 0, true, 0);
    worker(x);
    for (int i = 0; i < 32; i++) due(-1, x.word(0, i / 4, i % 4), "a word of a sealed one, at first");
    write(x, 0, 5, 0);
    write(x, 1, 5, 0, 31);
    due(-1, x.word(0, 0, 0), "a word of a sealed one");
    due(-1, x.word(0, 7, 3), "a word of 0 of a sealed one");
    due(5, x.word(1, 0, 0), "a word of one that is not");
    for (int guest = 0; guest < 2; guest++) {
      int one = guest;
      refusedAll(x, BOUNDS, page -> () -> x.word(one, page, 0), "word", outside(0, 7));
      refusedAll(x, BOUNDS, place -> () -> x.word(one, 0, place), "word", outside(0, 3));
    }
    refusedAll(x, BOUNDS, guest -> () -> x.word(guest, 0, 0), "word of no guest", outside(0, 1));
    // What it stores and how its pages are is told all the same.
    x.snapshot(0);
    due(1, x.stored(0), "stored");
    pages(x, 0, "HBBBBBBB", "of a sealed one");
    x.fail(0);
    due(-1, x.word(0, 0, 0), "a word of a sealed one that is DEAD");
  }

  static void asPlain() {
    Hall x = new Hall();
    make(x, COUNTS);
    make(x, 1, 1, true, all(of(HANDLE, 0, 9), put(7, 4), of(IN, 2, 1, OUT, 2, 0, SET, 3, 1, WAIT, 0, 0, JUMP, 3, 1, IN, 1, 2, BACK, 0, 0)));
    make(x);
    make(x, SET, 0, 32, LOAD, 0, 0);
    for (int guest = 0; guest < 4; guest++) yes(x.isAsPlain(guest), "at first");
    for (int i = 0; i < 12; i++) {
      x.tick(1 + 3 * i);
      x.send(1);
      x.input(0, i);
      for (int guest = 0; guest < 4; guest++) yes(x.isAsPlain(guest), "with " + guest + " at " + i);
    }
    due(STOPPED, x.of(2, HOW), "how");
    due(DEAD, x.of(3, HOW), "how");
    x.fail(0);
    for (int guest = 0; guest < 4; guest++) yes(x.isAsPlain(guest), "with " + guest + " behind the failing of a host");
    x.fail(1);
    for (int guest = 0; guest < 4; guest++) yes(x.isAsPlain(guest), "with " + guest + " behind the failing of both");
    refusedAll(x, BOUNDS, guest -> () -> x.isAsPlain(guest) ? 1 : 0, "isAsPlain", outside(0, 3));
  }
}
