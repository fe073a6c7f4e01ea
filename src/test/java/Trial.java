/**
 * Runs a script's calls on an object. Behind each call that is refused, an object that it was made on is compared with
 * one that it was not made on.
 */
final class Trial {
  private static int wrong = 0;
  private static int answers = 0;
  private static int refusals = 0;

  private final Script.Run run;

  private Trial(Script.Run run) {
    this.run = run;
  }

  static void perform(Script.Run run) {
    new Trial(run).perform();
  }

  static void tell(String what) {
    wrong++;
    System.out.println(what);
  }

  /** Tells what was counted, and ends with 1 if anything was wrong. */
  static void end(String runs) {
    System.out.println(runs + ", " + answers + " answers and " + refusals + " refusals, " + wrong + " wrong");
    if (wrong > 0) {
      System.exit(1);
    }
  }

  private void tell(Script.Row row, String what) {
    tell(row.place() + ": " + run.heading() + ": " + run.sentence() + "\n  " + row.call() + " " + what);
  }

  private void perform() {
    Machine machine = new Machine();
    if (run.rows().isEmpty()) {
      tell(run.heading() + ": nothing is run for: " + run.sentence());
    }
    for (Script.Row row : run.scene()) {
      perform(machine, row);
    }
    for (Script.Row row : run.rows()) {
      perform(machine, row);
      if (row.thrown() != null) {
        checkThatNothingChanged(row);
      }
    }
  }

  private void perform(Machine machine, Script.Row row) {
    try {
      Machine.Outcome outcome = machine.run(row.call());
      if (row.thrown() != null) {
        refusals++;
        checkThrown(row, outcome);
      } else if (outcome.thrown() != null) {
        tell(row, "threw " + outcome.thrown());
      } else {
        answers++;
        machine.name(row.name() == null ? "last" : row.name(), outcome.answer());
        checkAnswer(machine, row, outcome.answer());
      }
    } catch (Machine.Fault e) {
      tell(row, "cannot be run: " + e.getMessage());
    }
  }

  /** The machine's own exceptions have other classes, but for one, which shows by its message. */
  private void checkThrown(Script.Row row, Machine.Outcome outcome) {
    String got = outcome.thrown() == null ? "answered " + outcome.answer()
        : outcome.thrown().getClass().getSimpleName();
    if (!got.equals(row.thrown())) {
      tell(row, got + ", due is " + row.thrown());
    } else if ("/ by zero".equals(outcome.thrown().getMessage())) {
      tell(row, "was refused by the machine");
    }
  }

  private void checkAnswer(Machine machine, Script.Row row, Object answer) {
    if (row.due() != null && !isDue(machine, answer, row.due())) {
      tell(row, "answered " + answer + ", due is " + row.due());
    }
  }

  private static boolean isDue(Machine machine, Object answer, String due) {
    if (answer instanceof String || answer instanceof Boolean || answer instanceof Long) {
      return answer.toString().equals(due);
    }
    if (answer instanceof Float || answer instanceof Double) {
      String[] parts = due.split("/");
      int above = Integer.parseInt(parts[0].strip());
      int below = Integer.parseInt(parts[1].strip());
      return answer instanceof Float ? answer.equals((float) above / (float) below)
          : answer.equals((double) above / (double) below);
    }
    return answer.equals(machine.value(due));
  }

  private void checkThatNothingChanged(Script.Row refused) {
    for (int kind = 0; kind < Probe.KINDS; kind++) {
      Machine with = before(refused);
      Machine without = before(refused);
      try {
        with.run(refused.call());
        without.runArguments(refused.call());
        // as many calls are left for both
        without.call("polynomials");
      } catch (Machine.Fault e) {
        return;
      }
      String got = Probe.of(with, kind);
      String due = Probe.of(without, kind);
      if (!got.equals(due)) {
        tell(refused, "has changed something: " + firstDifference(got, due));
      }
    }
  }

  /** A new object on which all was called that stands before a row and is not refused. */
  private Machine before(Script.Row last) {
    Machine machine = new Machine();
    try {
      for (Script.Row row : run.scene()) {
        replay(machine, row);
      }
      for (Script.Row row : run.rows()) {
        if (row == last) {
          return machine;
        }
        replay(machine, row);
      }
    } catch (Machine.Fault e) {
      return machine;
    }
    return machine;
  }

  private void replay(Machine machine, Script.Row row) {
    if (row.thrown() == null) {
      machine.name(row.name() == null ? "last" : row.name(), machine.run(row.call()).answer());
      if (row.due() != null && row.due().startsWith("(")) {
        machine.value(row.due());
      }
    } else {
      machine.runArguments(row.call());
    }
  }

  private static String firstDifference(String got, String due) {
    String[] left = got.split("\n");
    String[] right = due.split("\n");
    for (int i = 0; i < Math.min(left.length, right.length); i++) {
      if (!left[i].equals(right[i])) {
        return left[i] + ", due is " + right[i];
      }
    }
    return left.length + " answers, due are " + right.length;
  }
}
